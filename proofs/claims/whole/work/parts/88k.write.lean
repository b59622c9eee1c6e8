/-! texts that are written -/
theorem bor_b {w : Nat → Int32} {k : Nat} (h0 : ∀ o, o < 4 → 0 ≤ prt w k o) (h : sI (prt w k) 4 ≤ 99) : (bor w k).toInt = sI (prt w k) 4 := by
  have e : bor w k = nI 0 + w (72 + 12 * k + (6 + 0)) + w (72 + 12 * k + (6 + 1)) + w (72 + 12 * k + (6 + 2)) + w (72 + 12 * k + (6 + 3)) := sm4 _
  have s : sI (prt w k) 4 = 0 + (w (72 + 12 * k + (6 + 0))).toInt + (w (72 + 12 * k + (6 + 1))).toInt + (w (72 + 12 * k + (6 + 2))).toInt + (w (72 + 12 * k + (6 + 3))).toInt := rfl
  have p0 : 0 ≤ (w (72 + 12 * k + (6 + 0))).toInt := h0 0 (by omega)
  have p1 : 0 ≤ (w (72 + 12 * k + (6 + 1))).toInt := h0 1 (by omega)
  have p2 : 0 ≤ (w (72 + 12 * k + (6 + 2))).toInt := h0 2 (by omega)
  have p3 : 0 ≤ (w (72 + 12 * k + (6 + 3))).toInt := h0 3 (by omega)
  have z : (nI 0).toInt = 0 := by decide +kernel
  rw [s] at h
  rw [e, s]
  generalize w (72 + 12 * k + (6 + 0)) = a0 at *
  generalize w (72 + 12 * k + (6 + 1)) = a1 at *
  generalize w (72 + 12 * k + (6 + 2)) = a2 at *
  generalize w (72 + 12 * k + (6 + 3)) = a3 at *
  have e0 : (nI 0 + a0).toInt = a0.toInt := by rw [ti_add (by omega) (by omega), z, Int.zero_add]
  have e1 : (nI 0 + a0 + a1).toInt = a0.toInt + a1.toInt := by rw [ti_add (by omega) (by omega), e0]
  have e2 : (nI 0 + a0 + a1 + a2).toInt = a0.toInt + a1.toInt + a2.toInt := by rw [ti_add (by omega) (by omega), e1]
  rw [ti_add (by omega) (by omega), e2]
  omega
abbrev tSt : Type := Nat × (Nat → Int32)
def tC (x : Int32) (t : tSt) : tSt := (t.1 + 1, upd t.2 t.1 x)
def tN (n : Nat) (t : tSt) : tSt := (t.1 + sb_dg n, fun i => if t.1 ≤ i ∧ i < t.1 + sb_dg n then nI (sb_dec n (i - t.1)) else t.2 i)
def tE (t s : tSt) : Prop := t.1 = s.1 ∧ ∀ i, i < t.1 → t.2 i = s.2 i ∧ 32 ≤ (s.2 i).toInt ∧ (s.2 i).toInt ≤ 126
theorem tE_C {t s : tSt} {x : Int32} (h : tE t s) (h1 : 32 ≤ x.toInt) (h2 : x.toInt ≤ 126) : tE (tC x t) (tC x s) := by
  obtain ⟨e, h⟩ := h
  refine ⟨?_, fun i hi => ?_⟩
  · show t.1 + 1 = s.1 + 1
    rw [e]
  · have hi : i < t.1 + 1 := hi
    show upd t.2 t.1 x i = upd s.2 s.1 x i ∧ 32 ≤ (upd s.2 s.1 x i).toInt ∧ (upd s.2 s.1 x i).toInt ≤ 126
    rw [← e]
    by_cases ei : i = t.1
    · subst ei
      rw [upd_eq, upd_eq]
      exact ⟨rfl, h1, h2⟩
    · rw [upd_ne ei, upd_ne ei]
      exact h i (by omega)
theorem tE_N {t s : tSt} {n : Nat} (h : tE t s) : tE (tN n t) (tN n s) := by
  obtain ⟨e, h⟩ := h
  refine ⟨?_, fun i hi => ?_⟩
  · show t.1 + sb_dg n = s.1 + sb_dg n
    rw [e]
  · have hi : i < t.1 + sb_dg n := hi
    show (if t.1 ≤ i ∧ i < t.1 + sb_dg n then nI (sb_dec n (i - t.1)) else t.2 i) = (if s.1 ≤ i ∧ i < s.1 + sb_dg n then nI (sb_dec n (i - s.1)) else s.2 i) ∧ 32 ≤ (if s.1 ≤ i ∧ i < s.1 + sb_dg n then nI (sb_dec n (i - s.1)) else s.2 i).toInt ∧ (if s.1 ≤ i ∧ i < s.1 + sb_dg n then nI (sb_dec n (i - s.1)) else s.2 i).toInt ≤ 126
    rw [← e]
    by_cases ei : t.1 ≤ i
    · rw [if_pos ⟨ei, hi⟩, if_pos ⟨ei, hi⟩]
      have hd : 48 ≤ sb_dec n (i - t.1) ∧ sb_dec n (i - t.1) ≤ 57 := by
        unfold sb_dec
        omega
      rw [tI (by omega)]
      exact ⟨rfl, by omega, by omega⟩
    · rw [if_neg (by omega), if_neg (by omega)]
      exact h i (by omega)
/-! the class' text, the reference's text -/
def cT (v : gV) (t : tSt) : gV := vRow (vRow v 557 (upd (v.1 557) 3 (nI t.1))) 558 t.2
def mT (u : gV) (t : tSt) : gV := vRow (vRow u 559 (upd (u.1 559) 12 (nI t.1))) 566 t.2
theorem vRow4 (v : gV) {i j : Nat} (a b c d : Nat → Int32) : vRow (vRow (vRow (vRow v i a) j b) i c) j d = vRow (vRow v i c) j d := by
  apply Prod.ext
  · funext k
    simp only [vRow_at]
    by_cases h1 : k = j
    · simp only [h1, if_true]
    · by_cases h2 : k = i
      · simp only [h1, h2, if_true, if_false]
      · simp only [h1, h2, if_false]
  · rfl
theorem vRow_swap (v : gV) {i j : Nat} (h : ¬ i = j) (a b : Nat → Int32) : vRow (vRow v i a) j b = vRow (vRow v j b) i a := by
  apply Prod.ext
  · funext k
    simp only [vRow_at]
    by_cases h1 : k = j
    · by_cases h2 : k = i
      · exact absurd (h2.symm.trans h1) h
      · rw [if_pos h1, if_neg h2, if_pos h1]
    · by_cases h2 : k = i
      · rw [if_neg h1, if_pos h2, if_pos h2]
      · rw [if_neg h1, if_neg h2, if_neg h2, if_neg h1]
  · rfl
theorem cT_557 (v : gV) (t : tSt) : (cT v t).1 557 = upd (v.1 557) 3 (nI t.1) := by
  unfold cT
  rw [vRow_ne _ _ (by omega), vRow_eq]
theorem cT_558 (v : gV) (t : tSt) : (cT v t).1 558 = t.2 := vRow_eq _ _ _
theorem cT_ne (v : gV) (t : tSt) {j : Nat} (h1 : ¬ j = 557) (h2 : ¬ j = 558) : (cT v t).1 j = v.1 j := by
  unfold cT
  rw [vRow_ne _ _ h2, vRow_ne _ _ h1]
theorem cT_len (v : gV) (t : tSt) : (cT v t).1 557 3 = nI t.1 := by rw [cT_557, upd_eq]
theorem cT_to (v : gV) (t s : tSt) (f : Nat → Int32) (hf : f = upd (v.1 557) 3 (nI s.1)) : vRow (vRow (cT v t) 557 f) 558 s.2 = cT v s := by
  unfold cT
  rw [vRow4, hf]
theorem cT_C (v : gV) (t : tSt) (x : Int32) (ht : t.1 < 1000) : f_J4_append_cf468 557 x (cT v t) = cT v (tC x t) := by
  show vRow (vM (cT v t) 557 3 ((cT v t).1 557 3 + 1)) 558 (upd ((cT v t).1 558) ((cT v t).1 557 3).toNatClampNeg x) = _
  rw [vM_rw, cT_len, cT_558, cl_n (by omega), nI_1, cT_557]
  exact cT_to v t (tC x t) _ (upd_upd _ _ _ _)
theorem cT_N (v : gV) (t : tSt) (n : Nat) (ht : t.1 < 1000) (hn : n < 2147483648) : f_J4_append_bf812 557 (nI n) (cT v t) = cT v (tN n t) := by
  show vRow (vM (cT v t) 557 3 ((cT v t).1 557 3 + nI (sb_dg (nI n).toNatClampNeg))) 558 (fun i => if ((cT v t).1 557 3).toNatClampNeg ≤ i ∧ i < ((cT v t).1 557 3).toNatClampNeg + sb_dg (nI n).toNatClampNeg then nI (sb_dec (nI n).toNatClampNeg (i - ((cT v t).1 557 3).toNatClampNeg)) else (cT v t).1 558 i) = _
  rw [vM_rw, cT_len, cT_558, cl_n (show t.1 < 2147483648 by omega), cl_n hn, nI_add, cT_557]
  exact cT_to v t (tN n t) _ (upd_upd _ _ _ _)
theorem pT_C (v : gV) (t : tSt) {x : Int32} (ht : t.1 ≤ 110) (h1 : 0 ≤ x.toInt) (h2 : x.toInt < 256) : p_J4_append_cf468 557 x (cT v t) := by
  have z0 : (0 : Int32).toInt = 0 := rfl
  refine ⟨?_, ?_, ?_⟩
  · rw [cT_len, cl_n (by omega)]
    exact ht
  · rw [i_lt, z0]
    omega
  · rw [i_nn h1, cl_n (by omega)]
    omega
theorem pT_N (v : gV) (t : tSt) {n : Nat} (ht : t.1 ≤ 110) (hn : n < 2147483648) : p_J4_append_bf812 557 (nI n) (cT v t) := by
  refine ⟨?_, nI_pos (by omega)⟩
  rw [cT_len, cl_n (by omega)]
  exact ht
theorem mT_559 (u : gV) (t : tSt) : (mT u t).1 559 = upd (u.1 559) 12 (nI t.1) := by
  unfold mT
  rw [vRow_ne _ _ (by omega), vRow_eq]
theorem mT_566 (u : gV) (t : tSt) : (mT u t).1 566 = t.2 := vRow_eq _ _ _
theorem mT_len (u : gV) (t : tSt) : (mT u t).1 559 12 = nI t.1 := by rw [mT_559, upd_eq]
theorem mT_ne (u : gV) (t : tSt) {j : Nat} (h1 : ¬ j = 559) (h2 : ¬ j = 566) : (mT u t).1 j = u.1 j := by
  unfold mT
  rw [vRow_ne _ _ h2, vRow_ne _ _ h1]
theorem mT_C (u : gV) (t : tSt) (x : Int32) (ht : t.1 < 80) : p_X12_write x (mT u t) ∧ f_X12_write x (mT u t) = mT u (tC x t) := by
  have hl := mT_len u t
  constructor
  · show vp_in ((mT u t).1 559 12) 80 ∧ True
    rw [hl]
    exact ⟨vi_n ht (by omega), trivial⟩
  · show vM (vM (mT u t) 566 ((mT u t).1 559 12).toNatClampNeg x) 559 12 ((vM (mT u t) 566 ((mT u t).1 559 12).toNatClampNeg x).1 559 12 + (1 : Int32)) = _
    rw [hl, cl_n (by omega), vM_rw, vM_rw, vRow_ne _ _ (show ¬ 559 = 566 by omega), hl, mT_566, mT_559, nI_1, upd_upd, vRow_swap _ (by omega)]
    unfold mT
    rw [vRow4]
    rfl
theorem div_n {a b : Nat} (ha : a < 2147483648) (hb : b < 2147483648) : nI a / nI b = nI (a / b) := by
  have hd : a / b ≤ a := Nat.div_le_self a b
  rw [i_eq, ti_div (ne_neg1 (by omega)), tI ha, tI hb, tI (by omega)]
  rfl
/-- the digits from the one at 10^j down -/
def tD (n : Nat) : Nat → tSt → tSt
  | 0, t => tC (nI (48 + n % 10)) t
  | j + 1, t => tD n j (tC (nI (48 + n / 10 ^ (j + 1) % 10)) t)
theorem tD_eq (n : Nat) : ∀ (j : Nat) (t : tSt), tD n j t = (t.1 + (j + 1), fun i => if t.1 ≤ i ∧ i < t.1 + (j + 1) then nI (48 + n / 10 ^ (j - (i - t.1)) % 10) else t.2 i) := by
  intro j
  induction j with
  | zero =>
    intro t
    apply Prod.ext
    · rfl
    · funext i
      show upd t.2 t.1 (nI (48 + n % 10)) i = if t.1 ≤ i ∧ i < t.1 + (0 + 1) then nI (48 + n / 10 ^ (0 - (i - t.1)) % 10) else t.2 i
      by_cases h : i = t.1
      · subst h
        rw [upd_eq, if_pos (by omega), Nat.sub_self, Nat.sub_self, Nat.pow_zero, Nat.div_one]
      · rw [upd_ne h, if_neg (by omega)]
  | succ j ih =>
    intro t
    show tD n j (tC (nI (48 + n / 10 ^ (j + 1) % 10)) t) = _
    rw [ih]
    apply Prod.ext
    · show t.1 + 1 + (j + 1) = t.1 + (j + 1 + 1)
      omega
    · funext i
      show (if t.1 + 1 ≤ i ∧ i < t.1 + 1 + (j + 1) then nI (48 + n / 10 ^ (j - (i - (t.1 + 1))) % 10) else upd t.2 t.1 (nI (48 + n / 10 ^ (j + 1) % 10)) i) = if t.1 ≤ i ∧ i < t.1 + (j + 1 + 1) then nI (48 + n / 10 ^ (j + 1 - (i - t.1)) % 10) else t.2 i
      by_cases h : i = t.1
      · subst h
        rw [if_neg (by omega), upd_eq, if_pos (by omega), Nat.sub_self, Nat.sub_zero]
      · by_cases h2 : t.1 ≤ i ∧ i < t.1 + (j + 1 + 1)
        · rw [if_pos (by omega), if_pos h2, show j - (i - (t.1 + 1)) = j + 1 - (i - t.1) by omega]
        · rw [if_neg (by omega), if_neg h2, upd_ne h]
theorem tD_N (n : Nat) (t : tSt) : tD n (sb_dg n - 1) t = tN n t := by
  have h := (sb_dg_in n).1
  rw [tD_eq, show sb_dg n - 1 + 1 = sb_dg n by omega]
  rfl
theorem dg_at {n : Nat} (hn : n < 100000000) : n / 10 ^ (sb_dg n - 1) ≤ 9 ∧ ∀ j, j + 1 < sb_dg n → 10 ≤ n / 10 ^ j := by
  have hD : sb_dg n = 1 ∨ sb_dg n = 2 ∨ sb_dg n = 3 ∨ sb_dg n = 4 ∨ sb_dg n = 5 ∨ sb_dg n = 6 ∨ sb_dg n = 7 ∨ sb_dg n = 8 := by
    unfold sb_dg
    repeat' split
    all_goals omega
  have hb : (sb_dg n = 1 → n < 10) ∧ (sb_dg n = 2 → 10 ≤ n ∧ n < 100) ∧ (sb_dg n = 3 → 100 ≤ n ∧ n < 1000) ∧ (sb_dg n = 4 → 1000 ≤ n ∧ n < 10000) ∧ (sb_dg n = 5 → 10000 ≤ n ∧ n < 100000) ∧ (sb_dg n = 6 → 100000 ≤ n ∧ n < 1000000) ∧ (sb_dg n = 7 → 1000000 ≤ n ∧ n < 10000000) ∧ (sb_dg n = 8 → 10000000 ≤ n ∧ n < 100000000) := by
    unfold sb_dg
    repeat' split
    all_goals omega
  generalize sb_dg n = D at hD hb
  have q0 : 10 ^ 0 = 1 := rfl
  have q1 : 10 ^ 1 = 10 := rfl
  have q2 : 10 ^ 2 = 100 := rfl
  have q3 : 10 ^ 3 = 1000 := rfl
  have q4 : 10 ^ 4 = 10000 := rfl
  have q5 : 10 ^ 5 = 100000 := rfl
  have q6 : 10 ^ 6 = 1000000 := rfl
  have q7 : 10 ^ 7 = 10000000 := rfl
  rcases hD with rfl | rfl | rfl | rfl | rfl | rfl | rfl | rfl
  · refine ⟨by rw [show 1 - 1 = 0 from rfl, q0]; omega, fun j hj => by omega⟩
  · refine ⟨by rw [show 2 - 1 = 1 from rfl, q1]; omega, fun j hj => ?_⟩
    obtain rfl : j = 0 := by omega
    rw [q0]; omega
  · refine ⟨by rw [show 3 - 1 = 2 from rfl, q2]; omega, fun j hj => ?_⟩
    have : j = 0 ∨ j = 1 := by omega
    rcases this with rfl | rfl
    · rw [q0]; omega
    · rw [q1]; omega
  · refine ⟨by rw [show 4 - 1 = 3 from rfl, q3]; omega, fun j hj => ?_⟩
    have : j = 0 ∨ j = 1 ∨ j = 2 := by omega
    rcases this with rfl | rfl | rfl
    · rw [q0]; omega
    · rw [q1]; omega
    · rw [q2]; omega
  · refine ⟨by rw [show 5 - 1 = 4 from rfl, q4]; omega, fun j hj => ?_⟩
    have : j = 0 ∨ j = 1 ∨ j = 2 ∨ j = 3 := by omega
    rcases this with rfl | rfl | rfl | rfl
    · rw [q0]; omega
    · rw [q1]; omega
    · rw [q2]; omega
    · rw [q3]; omega
  · refine ⟨by rw [show 6 - 1 = 5 from rfl, q5]; omega, fun j hj => ?_⟩
    have : j = 0 ∨ j = 1 ∨ j = 2 ∨ j = 3 ∨ j = 4 := by omega
    rcases this with rfl | rfl | rfl | rfl | rfl
    · rw [q0]; omega
    · rw [q1]; omega
    · rw [q2]; omega
    · rw [q3]; omega
    · rw [q4]; omega
  · refine ⟨by rw [show 7 - 1 = 6 from rfl, q6]; omega, fun j hj => ?_⟩
    have : j = 0 ∨ j = 1 ∨ j = 2 ∨ j = 3 ∨ j = 4 ∨ j = 5 := by omega
    rcases this with rfl | rfl | rfl | rfl | rfl | rfl
    · rw [q0]; omega
    · rw [q1]; omega
    · rw [q2]; omega
    · rw [q3]; omega
    · rw [q4]; omega
    · rw [q5]; omega
  · refine ⟨by rw [show 8 - 1 = 7 from rfl, q7]; omega, fun j hj => ?_⟩
    have : j = 0 ∨ j = 1 ∨ j = 2 ∨ j = 3 ∨ j = 4 ∨ j = 5 ∨ j = 6 := by omega
    rcases this with rfl | rfl | rfl | rfl | rfl | rfl | rfl
    · rw [q0]; omega
    · rw [q1]; omega
    · rw [q2]; omega
    · rw [q3]; omega
    · rw [q4]; omega
    · rw [q5]; omega
    · rw [q6]; omega
theorem dg_8 {n : Nat} (hn : n < 100000000) : 1 ≤ sb_dg n ∧ sb_dg n ≤ 8 := by
  unfold sb_dg
  repeat' split
  all_goals omega
theorem pow10 : ∀ j, j < 9 → 1 ≤ 10 ^ j ∧ 10 ^ j ≤ 100000000 := by decide +kernel
theorem L_wn2 (u : gV) {n : Nat} (hn : n < 100000000) : ∀ (j fuel : Nat) (t : tSt), j < 9 → j + 1 < fuel → t.1 + (j + 1) ≤ 80 → p_X12_writeNumber_18 fuel (nI n) (nI (10 ^ j)) (mT u t) ∧ f_X12_writeNumber_18 fuel (nI n) (nI (10 ^ j)) (mT u t) = mT u (tD n j t) := by
  have hdig : ∀ q : Nat, q < 100000000 → (48 : Int32) + (nI q - nI q / (10 : Int32) * (10 : Int32)) = nI (48 + q % 10) := fun q hq => by
    have e1 : nI q / (10 : Int32) = nI (q / 10) := div_n (b := 10) (by omega) (by omega)
    have e2 : nI (q / 10) * (10 : Int32) = nI (q / 10 * 10) := nI_mul _ 10
    rw [e1, e2, sub_n (by omega), li_48, nI_add]
    congr 1
    omega
  intro j
  induction j with
  | zero =>
    intro fuel t hj hf ht
    obtain ⟨f, rfl⟩ := fuel_s (m := 1) hf
    obtain ⟨f, rfl⟩ := fuel_s (m := 0) (show 0 < f by omega)
    have hp : ¬ nI (10 ^ 0) ≤ 0 := by
      show ¬ nI 1 ≤ nI 0
      exact le10
    have hz : ¬ nI (10 ^ 0) = 0 := n10
    have hq : nI n / nI (10 ^ 0) = nI n := by
      rw [div_n (by omega) (by decide)]
      congr 1
      exact Nat.div_one n
    have hnx : nI (10 ^ 0) / (10 : Int32) = nI 0 := by decide +kernel
    have h0 : nI 0 ≤ 0 := le00
    obtain ⟨c1, c2⟩ := mT_C u t (nI (48 + n % 10)) (by omega)
    rw [p_X12_writeNumber_18, f_X12_writeNumber_18, if_neg hp, hq, hdig n hn, c2]
    simp only [f_X12_writeNumber_35, p_X12_writeNumber_35, hnx]
    rw [p_X12_writeNumber_18, f_X12_writeNumber_18, if_pos h0]
    exact ⟨⟨fun h => absurd h hp, fun _ => ⟨hz, c1, fun _ => trivial, fun h => absurd h0 h⟩⟩, rfl⟩
  | succ j ih =>
    intro fuel t hj hf ht
    obtain ⟨f, rfl⟩ := fuel_s (m := 1) (by omega : 1 < fuel)
    obtain ⟨w1, w2⟩ := pow10 (j + 1) hj
    have hp : ¬ nI (10 ^ (j + 1)) ≤ 0 := by
      show ¬ nI (10 ^ (j + 1)) ≤ nI 0
      rw [le_n (by omega) (by omega)]
      omega
    have hz : ¬ nI (10 ^ (j + 1)) = 0 := by
      show ¬ nI (10 ^ (j + 1)) = nI 0
      rw [eq_n (by omega) (by omega)]
      omega
    have hqle : n / 10 ^ (j + 1) ≤ n := Nat.div_le_self _ _
    have hq : nI n / nI (10 ^ (j + 1)) = nI (n / 10 ^ (j + 1)) := div_n (by omega) (by omega)
    have hnx : nI (10 ^ (j + 1)) / (10 : Int32) = nI (10 ^ j) := by
      have e1 : nI (10 ^ (j + 1)) / (10 : Int32) = nI (10 ^ (j + 1) / 10) := div_n (b := 10) (by omega) (by omega)
      rw [e1, Nat.pow_succ, Nat.mul_div_cancel _ (by decide)]
    obtain ⟨c1, c2⟩ := mT_C u t (nI (48 + n / 10 ^ (j + 1) % 10)) (by omega)
    obtain ⟨i1, i2⟩ := ih f (tC (nI (48 + n / 10 ^ (j + 1) % 10)) t) (by omega) (by omega) (by show t.1 + 1 + (j + 1) ≤ 80; omega)
    rw [p_X12_writeNumber_18, f_X12_writeNumber_18, if_neg hp, hq, hdig _ (by omega), c2]
    simp only [f_X12_writeNumber_35, p_X12_writeNumber_35, hnx]
    exact ⟨⟨fun h => absurd h hp, fun _ => ⟨hz, c1, i1⟩⟩, i2⟩
theorem L_wn1 (u : gV) {n : Nat} (hn : n < 100000000) (t : tSt) (ht : t.1 + 8 ≤ 80) : ∀ (m j fuel : Nat), j + m + 1 = sb_dg n → m < fuel → p_X12_writeNumber_2 fuel (nI n) (nI (10 ^ j)) (mT u t) ∧ f_X12_writeNumber_2 fuel (nI n) (nI (10 ^ j)) (mT u t) = mT u (tN n t) := by
  obtain ⟨d1, d2⟩ := dg_8 hn
  obtain ⟨a1, a2⟩ := dg_at hn
  intro m
  induction m with
  | zero =>
    intro j fuel hj hf
    obtain ⟨f, rfl⟩ := fuel_s hf
    obtain ⟨w1, w2⟩ := pow10 j (by omega)
    have ej : sb_dg n - 1 = j := by omega
    rw [ej] at a1
    have hqle : n / 10 ^ j ≤ n := Nat.div_le_self _ _
    have hq : nI n / nI (10 ^ j) = nI (n / 10 ^ j) := div_n (by omega) (by omega)
    have hc : nI (n / 10 ^ j) ≤ (9 : Int32) := by
      show nI (n / 10 ^ j) ≤ nI 9
      rw [le_n (by omega) (by omega)]
      exact a1
    have hz : ¬ nI (10 ^ j) = 0 := by
      show ¬ nI (10 ^ j) = nI 0
      rw [eq_n (by omega) (by omega)]
      omega
    obtain ⟨q1, q2⟩ := L_wn2 u hn j 5000 t (by omega) (by omega) (by omega)
    have e := tD_N n t
    rw [ej] at e
    rw [e] at q2
    rw [p_X12_writeNumber_2, f_X12_writeNumber_2, hq, if_pos hc]
    exact ⟨⟨hz, fun _ => q1, fun h => absurd hc h⟩, q2⟩
  | succ m ih =>
    intro j fuel hj hf
    obtain ⟨f, rfl⟩ := fuel_s hf
    obtain ⟨w1, w2⟩ := pow10 j (by omega)
    have hqle : n / 10 ^ j ≤ n := Nat.div_le_self _ _
    have hq : nI n / nI (10 ^ j) = nI (n / 10 ^ j) := div_n (by omega) (by omega)
    have h10 := a2 j (by omega)
    have hc : ¬ nI (n / 10 ^ j) ≤ (9 : Int32) := by
      show ¬ nI (n / 10 ^ j) ≤ nI 9
      rw [le_n (by omega) (by omega)]
      omega
    have hz : ¬ nI (10 ^ j) = 0 := by
      show ¬ nI (10 ^ j) = nI 0
      rw [eq_n (by omega) (by omega)]
      omega
    have hnx : nI (10 ^ j) * (10 : Int32) = nI (10 ^ (j + 1)) := nI_mul _ 10
    obtain ⟨i1, i2⟩ := ih (j + 1) f (by omega) (by omega)
    rw [p_X12_writeNumber_2, f_X12_writeNumber_2, hq, if_neg hc, hnx]
    exact ⟨⟨hz, fun h => absurd h hc, fun _ => i1⟩, i2⟩
theorem mT_N (u : gV) (t : tSt) {n : Nat} (hn : n < 100000000) (ht : t.1 + 8 ≤ 80) : p_X12_writeNumber (nI n) (mT u t) ∧ f_X12_writeNumber (nI n) (mT u t) = mT u (tN n t) := by
  obtain ⟨d1, d2⟩ := dg_8 hn
  exact L_wn1 u hn t ht (sb_dg n - 1) 0 5000 (by omega) (by omega)
theorem tN_1 (n : Nat) (t : tSt) : (tN n t).1 = t.1 + sb_dg n := rfl
theorem tC_1 (x : Int32) (t : tSt) : (tC x t).1 = t.1 + 1 := rfl
/-- the invariant, where the output alone has changed -/
theorem J_out {B : Nat} {v u : gV} (hJ : J B v) (h1 : ∀ j, j = 0 ∨ 51 ≤ j → ¬ j = 557 → ¬ j = 558 → ¬ j = 559 → ¬ j = 566 → u.1 j = v.1 j) (h2 : ∀ k, ¬ k = 6 → ¬ k = 12 → u.1 559 k = v.1 559 k) (h3 : ∀ o k, rel o k → u.1 (1 + o) k = v.1 (1 + o) k) (hO : JO u) : J B u := by
  obtain ⟨j1, j2, j3, j4, j5, j6⟩ := hJ
  refine ⟨?_, ?_, ?_, ?_, hO, ?_⟩
  · rw [h1 560 (by omega) (by omega) (by omega) (by omega) (by omega)]
    exact j1.copy h3
  · exact JH_same j2 (h1 101 (by omega) (by omega) (by omega) (by omega) (by omega)) (h2 7 (by omega) (by omega)) (h1 563 (by omega) (by omega) (by omega) (by omega) (by omega)) fun o d _ _ _ _ j a b _ => h1 j (by omega) (by omega) (by omega) (by omega) (by omega)
  · unfold JS
    rw [h1 0 (by omega) (by omega) (by omega) (by omega) (by omega), h2 10 (by omega) (by omega), h1 562 (by omega) (by omega) (by omega) (by omega) (by omega)]
    exact j3.imp id fun ⟨a, b, c⟩ => ⟨a, b, c.same fun j a b => h1 j (by omega) (by omega) (by omega) (by omega) (by omega)⟩
  · unfold JT
    rw [h1 554 (by omega) (by omega) (by omega) (by omega) (by omega), h1 555 (by omega) (by omega) (by omega) (by omega) (by omega), h2 16 (by omega) (by omega), h1 567 (by omega) (by omega) (by omega) (by omega) (by omega)]
    exact j4
  · unfold JE
    rw [h1 0 (by omega) (by omega) (by omega) (by omega) (by omega), h2 8 (by omega) (by omega), h2 9 (by omega) (by omega)]
    exact j6
/-- behind both texts -/
theorem J_txt {B : Nat} {v u : gV} {t s : tSt} (hJ : J B v) (hu : u.1 = (cT v t).1) (h : tE t s) (ht : t.1 ≤ 80) : J B (mT (thr u (nI 0)) s) := by
  have hg : ∀ j, ¬ j = 559 → ¬ j = 566 → (mT (thr u (nI 0)) s).1 j = (cT v t).1 j := fun j a b => by rw [mT_ne _ _ a b, thr_1 _ _ a, hu]
  refine J_out hJ (fun j a b c d e => ?_) (fun k a b => ?_) (fun o k hr => ?_) ⟨t.1, ht, ?_, ?_, fun i hi => ?_⟩
  · rw [hg j d e, cT_ne _ _ b c]
  · rw [mT_559, upd_ne b, (thr_Th u (nI 0)).2.1, upd_ne a, hu, cT_ne _ _ (by omega) (by omega)]
  · rw [hg _ (by unfold rel at hr; omega) (by unfold rel at hr; omega), cT_ne _ _ (by unfold rel at hr; omega) (by unfold rel at hr; omega)]
  · rw [hg 557 (by omega) (by omega), cT_len]
  · rw [mT_len, h.1]
  · rw [hg 558 (by omega) (by omega), cT_558, mT_566]
    exact h.2 i hi
/-! a policy written -/
def tPol (n s r e : Nat) (a : Bool) (t : tSt) : tSt := if a = true then tN e (tC (nI 64) (tN r (tC (nI 120) (tN s (tC (nI 58) (tN n (tC (nI 35) t))))))) else tC (nI 33) (tN e (tC (nI 64) (tN r (tC (nI 120) (tN s (tC (nI 58) (tN n (tC (nI 35) t))))))))
theorem tE_pol (n s r e : Nat) (a : Bool) {t t' : tSt} (h : tE t t') : tE (tPol n s r e a t) (tPol n s r e a t') := by
  have ch : ∀ (k : Nat) {x y : tSt}, 32 ≤ k → k ≤ 126 → tE x y → tE (tC (nI k) x) (tC (nI k) y) := fun k x y h1 h2 h => tE_C h (by rw [tI (by omega)]; omega) (by rw [tI (by omega)]; omega)
  have h8 := tE_N (n := e) (ch 64 (by omega) (by omega) (tE_N (n := r) (ch 120 (by omega) (by omega) (tE_N (n := s) (ch 58 (by omega) (by omega) (tE_N (n := n) (ch 35 (by omega) (by omega) h)))))))
  unfold tPol
  cases a with
  | true => exact h8
  | false => exact ch 33 (by omega) (by omega) h8
theorem K_wpol {B np nc nt no k n s r e : Nat} {v : gV} {w : Nat → Int32} (h : BR B v 1 w np nc nt no) (hk : k < np) (hn : n < 100000000) (hs : s < 100000000) (hr : r < 100000000) (he : e < 100000000) (es : w (8 + 8 * k + 1) = nI s) (er : w (8 + 8 * k + 2) = nI r) (ee : w (8 + 8 * k + 4) = nI e) (t : tSt) (ht : t.1 = 0) : p_X11_writePolicy_20 (nI n) (nI k) (cT v t) ∧ f_X11_writePolicy_20 (nI n) (nI k) (cT v t) = (Sum.inl (nI (tPol n s r e (act w k) t).1), cT v (tPol n s r e (act w k) t)) := by
  have n5 := h.1.2.2.2.2.1
  have bp := h.2.2.2.2.2.2.2.2.1
  have s7 : v.1 1 5 = w 6 := h.2.2.2.2.2.2.2.1.2.2.2.2.2.2.1
  have hcl : (nI k).toNatClampNeg = k := cl_n (by omega)
  have hv : vp_in (nI k) 8 := vi_n (by omega) (by omega)
  have r4 : ∀ t, (cT v t).1 (1 + 3) k = nI s := fun t => by rw [cT_ne _ _ (by omega) (by omega), ← es]; exact (bp k hk).2.1
  have r5 : ∀ t, (cT v t).1 (1 + 4) k = nI r := fun t => by rw [cT_ne _ _ (by omega) (by omega), ← er]; exact (bp k hk).2.2.1
  have r7 : ∀ t, (cT v t).1 (1 + 6) k = nI e := fun t => by rw [cT_ne _ _ (by omega) (by omega), ← ee]; exact (bp k hk).2.2.2.2.1
  have r1 : ∀ t, (cT v t).1 1 5 = w 6 := fun t => by rw [cT_ne _ _ (by omega) (by omega)]; exact s7
  have bp' : ∀ t, BRp (cT v t) 1 w np := fun t => BRp_congr n5 (fun o h1 h2 => cT_ne _ _ (by omega) (by omega)) (fun _ _ _ => rfl) bp
  have hA : ∀ t, f_X5_isActiveAt 1 (nI k) (w 6) (cT v t) = if act w k = true then nI 1 else nI 0 := fun t => F_act n5 (bp' t) hk
  have hAp : ∀ t, p_X5_isActiveAt 1 (nI k) (w 6) (cT v t) := fun t => P_X5_isActiveAt (cT v t) (w 6) (by omega)
  have dn := dg_8 hn
  have ds := dg_8 hs
  have dr := dg_8 hr
  have de := dg_8 he
  have len : ∀ t, (cT v t).1 557 3 = nI t.1 := cT_len v
  have FC : ∀ (q : Nat) (t : tSt), t.1 < 100 → f_J4_append_cf468 557 (nI q) (cT v t) = cT v (tC (nI q) t) := fun q t h => cT_C v t (nI q) (by omega)
  have PC : ∀ (q : Nat) (t : tSt), t.1 < 100 → q < 256 → p_J4_append_cf468 557 (nI q) (cT v t) := fun q t h hq => pT_C v t (by omega) (by rw [tI (by omega)]; omega) (by rw [tI (by omega)]; omega)
  have FN : ∀ (q : Nat) (t : tSt), t.1 < 100 → q < 100000000 → f_J4_append_bf812 557 (nI q) (cT v t) = cT v (tN q t) := fun q t h hq => cT_N v t q (by omega) (by omega)
  have PN : ∀ (q : Nat) (t : tSt), t.1 < 100 → q < 100000000 → p_J4_append_bf812 557 (nI q) (cT v t) := fun q t h hq => pT_N v t (by omega) (by omega)
  have f140 : ∀ t, f_X11_writePolicy_140 (cT v t) = (Sum.inl (nI t.1), cT v t) := fun t => by
    show (Sum.inl ((cT v t).1 557 3), cT v t) = _
    rw [len]
  have p140 : ∀ t, p_X11_writePolicy_140 (cT v t) := fun t => And.intro trivial trivial
  have l1 : (tC (nI 35) t).1 = 1 := by rw [tC_1, ht]
  have l2 : (tN n (tC (nI 35) t)).1 ≤ 9 := by rw [tN_1, l1]; omega
  have l3 : (tC (nI 58) (tN n (tC (nI 35) t))).1 ≤ 10 := by rw [tC_1]; omega
  have l4 : (tN s (tC (nI 58) (tN n (tC (nI 35) t)))).1 ≤ 18 := by rw [tN_1]; omega
  have l5 : (tC (nI 120) (tN s (tC (nI 58) (tN n (tC (nI 35) t))))).1 ≤ 19 := by rw [tC_1]; omega
  have l6 : (tN r (tC (nI 120) (tN s (tC (nI 58) (tN n (tC (nI 35) t)))))).1 ≤ 27 := by rw [tN_1]; omega
  have l7 : (tC (nI 64) (tN r (tC (nI 120) (tN s (tC (nI 58) (tN n (tC (nI 35) t))))))).1 ≤ 28 := by rw [tC_1]; omega
  have l8 : (tN e (tC (nI 64) (tN r (tC (nI 120) (tN s (tC (nI 58) (tN n (tC (nI 35) t)))))))).1 ≤ 36 := by rw [tN_1]; omega
  constructor
  · rw [p_X11_writePolicy_20]
    refine ⟨PC 35 t (by omega) (by omega), ?_⟩
    rw [show (35 : Int32) = nI 35 from rfl, FC 35 t (by omega), p_X11_writePolicy_29]
    refine ⟨PN n _ (by omega) hn, ?_⟩
    rw [FN n _ (by omega) hn, p_X11_writePolicy_33]
    refine ⟨PC 58 _ (by omega) (by omega), ?_⟩
    rw [show (58 : Int32) = nI 58 from rfl, FC 58 _ (by omega), p_X11_writePolicy_43, hcl, r4]
    refine ⟨hv, PN s _ (by omega) hs, ?_⟩
    rw [FN s _ (by omega) hs, p_X11_writePolicy_58]
    refine ⟨PC 120 _ (by omega) (by omega), ?_⟩
    rw [show (120 : Int32) = nI 120 from rfl, FC 120 _ (by omega), p_X11_writePolicy_68, hcl, r5]
    refine ⟨hv, PN r _ (by omega) hr, ?_⟩
    rw [FN r _ (by omega) hr, p_X11_writePolicy_83]
    refine ⟨PC 64 _ (by omega) (by omega), ?_⟩
    rw [show (64 : Int32) = nI 64 from rfl, FC 64 _ (by omega), p_X11_writePolicy_93, hcl, r7]
    refine ⟨hv, PN e _ (by omega) he, ?_⟩
    rw [FN e _ (by omega) he, p_X11_writePolicy_108, r1]
    refine ⟨hAp _, fun _ => ⟨PC 33 _ (by omega) (by omega), ?_⟩, fun _ => p140 _⟩
    rw [show (33 : Int32) = nI 33 from rfl, FC 33 _ (by omega)]
    exact p140 _
  · rw [f_X11_writePolicy_20, show (35 : Int32) = nI 35 from rfl, FC 35 t (by omega), f_X11_writePolicy_29, FN n _ (by omega) hn, f_X11_writePolicy_33, show (58 : Int32) = nI 58 from rfl, FC 58 _ (by omega), f_X11_writePolicy_43, hcl, r4, FN s _ (by omega) hs, f_X11_writePolicy_58, show (120 : Int32) = nI 120 from rfl, FC 120 _ (by omega), f_X11_writePolicy_68, hcl, r5, FN r _ (by omega) hr, f_X11_writePolicy_83, show (64 : Int32) = nI 64 from rfl, FC 64 _ (by omega), f_X11_writePolicy_93, hcl, r7, FN e _ (by omega) he, f_X11_writePolicy_108, r1, hA]
    unfold tPol
    cases act w k with
    | true =>
      rw [if_pos rfl, if_neg (show ¬ nI 1 = 0 from n10), if_pos rfl, f140]
    | false =>
      rw [if_neg Bool.false_ne_true, if_pos (show nI 0 = 0 from rfl), if_neg Bool.false_ne_true, show (33 : Int32) = nI 33 from rfl, FC 33 _ (by omega)]
      exact f140 _
theorem K_wpol12 {k n s r e : Nat} {u : gV} {w : Nat → Int32} (hw : u.1 560 = w) (hk : k < 8) (hn : n < 100000000) (hs : s < 100000000) (hr : r < 100000000) (he : e < 100000000) (es : w (8 + 8 * k + 1) = nI s) (er : w (8 + 8 * k + 2) = nI r) (ee : w (8 + 8 * k + 4) = nI e) (t : tSt) (ht : t.1 = 0) : p_X12_writePolicy_33 (nI n) (nI k) (mT u t) ∧ f_X12_writePolicy_33 (nI n) (nI k) (mT u t) = (nI (tPol n s r e (act w k) t).1, mT u (tPol n s r e (act w k) t)) := by
  have m560 : ∀ t, (mT u t).1 560 = w := fun t => by rw [mT_ne _ _ (by omega) (by omega)]; exact hw
  have f1 : ∀ t, f_X12_p (nI k) (1 : Int32) (mT u t) = nI s := fun t => (F_X12_p (mT u t) (k := k) (o := 1) (by omega)).trans (by rw [m560]; exact es)
  have f2 : ∀ t, f_X12_p (nI k) (2 : Int32) (mT u t) = nI r := fun t => (F_X12_p (mT u t) (k := k) (o := 2) (by omega)).trans (by rw [m560]; exact er)
  have f4 : ∀ t, f_X12_p (nI k) (4 : Int32) (mT u t) = nI e := fun t => (F_X12_p (mT u t) (k := k) (o := 4) (by omega)).trans (by rw [m560]; exact ee)
  have p1 : ∀ t, p_X12_p (nI k) (1 : Int32) (mT u t) := fun t => P_X12_p (mT u t) (k := k) (o := 1) (by omega)
  have p2 : ∀ t, p_X12_p (nI k) (2 : Int32) (mT u t) := fun t => P_X12_p (mT u t) (k := k) (o := 2) (by omega)
  have p4 : ∀ t, p_X12_p (nI k) (4 : Int32) (mT u t) := fun t => P_X12_p (mT u t) (k := k) (o := 4) (by omega)
  have hA : ∀ t, f_X12_isActiveAt (nI k) (mT u t) = if act w k = true then nI 1 else nI 0 := fun t => by rw [F_X12_isActiveAt _ (by omega), m560]
  have hAp : ∀ t, p_X12_isActiveAt (nI k) (mT u t) := fun t => P_X12_isActiveAt _ (by omega)
  have dn := dg_8 hn
  have ds := dg_8 hs
  have dr := dg_8 hr
  have de := dg_8 he
  have FC : ∀ (q : Nat) (t : tSt), t.1 < 70 → f_X12_write (nI q) (mT u t) = mT u (tC (nI q) t) := fun q t h => (mT_C u t (nI q) (by omega)).2
  have PC : ∀ (q : Nat) (t : tSt), t.1 < 70 → p_X12_write (nI q) (mT u t) := fun q t h => (mT_C u t (nI q) (by omega)).1
  have FN : ∀ (q : Nat) (t : tSt), t.1 < 70 → q < 100000000 → f_X12_writeNumber (nI q) (mT u t) = mT u (tN q t) := fun q t h hq => (mT_N u t hq (by omega)).2
  have PN : ∀ (q : Nat) (t : tSt), t.1 < 70 → q < 100000000 → p_X12_writeNumber (nI q) (mT u t) := fun q t h hq => (mT_N u t hq (by omega)).1
  have f106 : ∀ t, f_X12_writePolicy_106 (mT u t) = (nI t.1, mT u t) := fun t => by
    show ((mT u t).1 559 12, mT u t) = _
    rw [mT_len]
  have l1 : (tC (nI 35) t).1 = 1 := by rw [tC_1, ht]
  have l2 : (tN n (tC (nI 35) t)).1 ≤ 9 := by rw [tN_1, l1]; omega
  have l3 : (tC (nI 58) (tN n (tC (nI 35) t))).1 ≤ 10 := by rw [tC_1]; omega
  have l4 : (tN s (tC (nI 58) (tN n (tC (nI 35) t)))).1 ≤ 18 := by rw [tN_1]; omega
  have l5 : (tC (nI 120) (tN s (tC (nI 58) (tN n (tC (nI 35) t))))).1 ≤ 19 := by rw [tC_1]; omega
  have l6 : (tN r (tC (nI 120) (tN s (tC (nI 58) (tN n (tC (nI 35) t)))))).1 ≤ 27 := by rw [tN_1]; omega
  have l7 : (tC (nI 64) (tN r (tC (nI 120) (tN s (tC (nI 58) (tN n (tC (nI 35) t))))))).1 ≤ 28 := by rw [tC_1]; omega
  have l8 : (tN e (tC (nI 64) (tN r (tC (nI 120) (tN s (tC (nI 58) (tN n (tC (nI 35) t)))))))).1 ≤ 36 := by rw [tN_1]; omega
  constructor
  · rw [p_X12_writePolicy_33]
    refine ⟨PC 35 t (by omega), ?_⟩
    rw [show (35 : Int32) = nI 35 from rfl, FC 35 t (by omega), p_X12_writePolicy_39]
    refine ⟨PN n _ (by omega) hn, ?_⟩
    rw [FN n _ (by omega) hn, p_X12_writePolicy_44]
    refine ⟨PC 58 _ (by omega), ?_⟩
    rw [show (58 : Int32) = nI 58 from rfl, FC 58 _ (by omega), p_X12_writePolicy_50, f1]
    refine ⟨p1 _, PN s _ (by omega) hs, ?_⟩
    rw [FN s _ (by omega) hs, p_X12_writePolicy_60]
    refine ⟨PC 120 _ (by omega), ?_⟩
    rw [show (120 : Int32) = nI 120 from rfl, FC 120 _ (by omega), p_X12_writePolicy_66, f2]
    refine ⟨p2 _, PN r _ (by omega) hr, ?_⟩
    rw [FN r _ (by omega) hr, p_X12_writePolicy_76]
    refine ⟨PC 64 _ (by omega), ?_⟩
    rw [show (64 : Int32) = nI 64 from rfl, FC 64 _ (by omega), p_X12_writePolicy_82, f4]
    refine ⟨p4 _, PN e _ (by omega) he, ?_⟩
    rw [FN e _ (by omega) he, p_X12_writePolicy_92]
    exact ⟨hAp _, fun _ => ⟨PC 33 _ (by omega), trivial⟩, fun _ => trivial⟩
  · rw [f_X12_writePolicy_33, show (35 : Int32) = nI 35 from rfl, FC 35 t (by omega), f_X12_writePolicy_39, FN n _ (by omega) hn, f_X12_writePolicy_44, show (58 : Int32) = nI 58 from rfl, FC 58 _ (by omega), f_X12_writePolicy_50, f1, FN s _ (by omega) hs, f_X12_writePolicy_60, show (120 : Int32) = nI 120 from rfl, FC 120 _ (by omega), f_X12_writePolicy_66, f2, FN r _ (by omega) hr, f_X12_writePolicy_76, show (64 : Int32) = nI 64 from rfl, FC 64 _ (by omega), f_X12_writePolicy_82, f4, FN e _ (by omega) he, f_X12_writePolicy_92, hA]
    unfold tPol
    cases act w k with
    | true =>
      rw [if_pos rfl, if_neg (show ¬ nI 1 = 0 from n10), if_pos rfl, f106]
    | false =>
      rw [if_neg Bool.false_ne_true, if_pos (show nI 0 = 0 from rfl), if_neg Bool.false_ne_true, show (33 : Int32) = nI 33 from rfl, FC 33 _ (by omega), f106]
theorem tPol_b (n s r e : Nat) (a : Bool) {t : tSt} (ht : t.1 = 0) (hn : n < 100000000) (hs : s < 100000000) (hr : r < 100000000) (he : e < 100000000) : (tPol n s r e a t).1 ≤ 80 := by
  have dn := dg_8 hn
  have ds := dg_8 hs
  have dr := dg_8 hr
  have de := dg_8 he
  unfold tPol
  cases a with
  | true =>
    rw [if_pos rfl]
    show t.1 + 1 + sb_dg n + 1 + sb_dg s + 1 + sb_dg r + 1 + sb_dg e ≤ 80
    omega
  | false =>
    rw [if_neg Bool.false_ne_true]
    show t.1 + 1 + sb_dg n + 1 + sb_dg s + 1 + sb_dg r + 1 + sb_dg e + 1 ≤ 80
    omega
theorem mT_of (u : gV) : vM (thr u (nI 0)) 559 12 (nI 0) = mT (thr u (nI 0)) (0, (thr u (nI 0)).1 566) := by
  rw [vM_rw]
  unfold mT
  have h : (vRow (thr u (nI 0)) 559 (upd ((thr u (nI 0)).1 559) 12 (nI 0))).1 566 = (thr u (nI 0)).1 566 := vRow_ne _ _ (by omega)
  show _ = vRow (vRow (thr u (nI 0)) 559 (upd ((thr u (nI 0)).1 559) 12 (nI 0))) 566 ((thr u (nI 0)).1 566)
  rw [← h, vRow_self]
theorem cT_of (v : gV) : vM v 557 3 0 = cT v (0, v.1 558) := by
  rw [vM_rw]
  unfold cT
  have h : (vRow v 557 (upd (v.1 557) 3 (nI 0))).1 558 = v.1 558 := vRow_ne _ _ (by omega)
  show vRow v 557 (upd (v.1 557) 3 (nI 0)) = vRow (vRow v 557 (upd (v.1 557) 3 (nI 0))) 558 (v.1 558)
  rw [← h, vRow_self]
theorem tE_0 (f g : Nat → Int32) : tE (0, f) (0, g) := ⟨rfl, fun i hi => by
  have hi : i < 0 := hi
  omega⟩
theorem A_writePolicy (x : Int32) {B : Nat} (hB : B < 40000) : Ans (f_X11_writePolicy x) (p_X11_writePolicy x) (f_X12_writePolicy x) (p_X12_writePolicy x) eN oy1 (any Int32) B := by
  intro v hJ
  obtain ⟨np, nc, nt, no, h⟩ := hJ.1
  have hw := h.1
  have n5 := hw.2.2.2.2.1
  have wp := h.2.2.1
  have hs4 := h.2.1
  obtain ⟨pp, pf⟩ := F_placeOf_P n5 h.2.2.2.2.2.2.2.1 h.2.2.2.2.2.2.2.2.1 x
  cases e : pol (v.1 560) np x with
  | none =>
    rw [e] at pf
    have pf : f_X6_placeOf_P 1 x v = Sum.inr "java/util/NoSuchElementException" := pf
    have hf : f_X11_writePolicy x v = (Sum.inr "java/util/NoSuchElementException", v) := by
      show f_X11_writePolicy_0 x v = _
      rw [f_X11_writePolicy_0, pf]
      rfl
    have hp : p_X11_writePolicy x v := by
      show p_X11_writePolicy_0 x v
      rw [p_X11_writePolicy_0, pf]
      exact ⟨pp, fun r hr => by cases hr⟩
    rw [hf]
    refine ⟨hp, Or.inl ⟨nI 1, rfl, n10, rfl, fun u hu => ?_⟩⟩
    have hu0 : u.1 560 = v.1 560 := by rw [hu]
    have hP := P_X12_policy x u (n := np) (by rw [hu0]; exact hw.1) n5
    have hF := F_X12_policy x u (n := np) (by rw [hu0]; exact hw.1) n5
    rw [hu0, e] at hF
    have hck := F_checked (nI 0) u
    rw [if_pos rfl] at hck
    have hck' : f_X12_checked (0 : Int32) u = (nI 1, thr u (nI 1)) := hck
    have l1 : ¬ nI 1 ≤ 0 := le10
    have hlt : oN none < 0 := oN_none'
    have hm : p_X12_writePolicy x u ∧ f_X12_writePolicy x u = (0, thr u (nI 1)) := by
      constructor
      · show p_X12_writePolicy_0 x u
        rw [p_X12_writePolicy_0, hF]
        refine ⟨hP, fun _ => ?_, fun h => absurd hlt h⟩
        rw [p_X12_writePolicy_14, hck']
        refine ⟨P_checked _ _, ?_⟩
        rw [p_X12_writePolicy_17]
        exact ⟨fun h => absurd h l1, fun _ => trivial⟩
      · show f_X12_writePolicy_0 x u = _
        rw [f_X12_writePolicy_0, hF, if_pos hlt, f_X12_writePolicy_14, hck', f_X12_writePolicy_17, if_neg l1]
    rw [hm.2]
    have hth := thr_Th u (nI 1)
    exact ⟨hm.1, thr_6 u _, ((hJ.one hu).sc hth.sc).mono (by omega)⟩
  | some k =>
    rw [e] at pf
    have hk := pol_lt e
    have pf : f_X6_placeOf_P 1 x v = Sum.inl (nI k) := pf
    have hwp := wp.1 k hk
    unfold WFp1 at hwp
    unfold WFs at hs4
    have hid : v.1 560 (8 + 8 * k) = x := (fid_some e).2
    obtain ⟨n, hn, en⟩ := nI_ofI (x := x) (m := 100000000) (by rw [← hid]; omega) (by rw [← hid]; omega)
    subst en
    obtain ⟨s, hs, es⟩ := nI_ofI (x := v.1 560 (8 + 8 * k + 1)) (m := 100000000) (by omega) (by omega)
    obtain ⟨r, hr, er⟩ := nI_ofI (x := v.1 560 (8 + 8 * k + 2)) (m := 100000000) (by omega) (by omega)
    obtain ⟨q, hq, eq⟩ := nI_ofI (x := v.1 560 (8 + 8 * k + 4)) (m := 100000000) (by omega) (by omega)
    obtain ⟨c1, c2⟩ := K_wpol h hk hn hs hr hq es er eq (0, v.1 558) rfl
    have hsl : f_J4_setLength_d00df 557 (0 : Int32) v = cT v (0, v.1 558) := cT_of v
    have hf : f_X11_writePolicy (nI n) v = (Sum.inl (nI (tPol n s r q (act (v.1 560) k) (0, v.1 558)).1), cT v (tPol n s r q (act (v.1 560) k) (0, v.1 558))) := by
      show f_X11_writePolicy_0 (nI n) v = _
      rw [f_X11_writePolicy_0, pf, el_l, f_X11_writePolicy_11, hsl]
      exact c2
    have hp : p_X11_writePolicy (nI n) v := by
      show p_X11_writePolicy_0 (nI n) v
      rw [p_X11_writePolicy_0, pf]
      refine ⟨pp, fun r' hr' => ?_⟩
      cases hr'
      rw [p_X11_writePolicy_11, hsl]
      exact ⟨rfl, c1⟩
    rw [hf]
    refine ⟨hp, Or.inr ⟨_, trivial, rfl, fun u hu => ?_⟩⟩
    have hu : u.1 = (cT v (tPol n s r q (act (v.1 560) k) (0, v.1 558))).1 := hu
    have hu0 : u.1 560 = v.1 560 := by rw [hu, cT_ne _ _ (by omega) (by omega)]
    have hP := P_X12_policy (nI n) u (n := np) (by rw [hu0]; exact hw.1) n5
    have hF := F_X12_policy (nI n) u (n := np) (by rw [hu0]; exact hw.1) n5
    have hP2 := P_X12_policy (nI n) (thr u (nI 0)) (n := np) (by rw [thr_560, hu0]; exact hw.1) n5
    have hF2 := F_X12_policy (nI n) (thr u (nI 0)) (n := np) (by rw [thr_560, hu0]; exact hw.1) n5
    rw [hu0, e, oN_s] at hF
    rw [thr_560, hu0, e, oN_s] at hF2
    have hck := F_checked (nI 1) u
    rw [if_neg n10] at hck
    have hck' : f_X12_checked (1 : Int32) u = (nI 0, thr u (nI 0)) := hck
    have l0 : nI 0 ≤ 0 := le00
    have hlt : ¬ nI k < 0 := nI_pos (by omega)
    obtain ⟨d1, d2⟩ := K_wpol12 (u := thr u (nI 0)) (w := v.1 560) (by rw [thr_560]; exact hu0) (show k < 8 by omega) hn hs hr hq es er eq (0, (thr u (nI 0)).1 566) rfl
    have hmt : vM (thr u (nI 0)) 559 12 (0 : Int32) = mT (thr u (nI 0)) (0, (thr u (nI 0)).1 566) := mT_of u
    have hm : p_X12_writePolicy (nI n) u ∧ f_X12_writePolicy (nI n) u = (nI (tPol n s r q (act (v.1 560) k) (0, (thr u (nI 0)).1 566)).1, mT (thr u (nI 0)) (tPol n s r q (act (v.1 560) k) (0, (thr u (nI 0)).1 566))) := by
      constructor
      · show p_X12_writePolicy_0 (nI n) u
        rw [p_X12_writePolicy_0, hF]
        refine ⟨hP, fun h => absurd h hlt, fun _ => ?_⟩
        rw [p_X12_writePolicy_14, hck']
        refine ⟨P_checked _ _, ?_⟩
        rw [p_X12_writePolicy_17, hF2, hmt]
        exact ⟨fun _ => ⟨hP2, d1⟩, fun _ => trivial⟩
      · show f_X12_writePolicy_0 (nI n) u = _
        rw [f_X12_writePolicy_0, hF, if_neg hlt, f_X12_writePolicy_14, hck', f_X12_writePolicy_17, if_pos l0, hF2, hmt]
        exact d2
    have hE := tE_pol n s r q (act (v.1 560) k) (tE_0 (v.1 558) ((thr u (nI 0)).1 566))
    rw [hm.2]
    refine ⟨hm.1, ?_, ?_, rfl, ?_⟩
    · rw [mT_559, upd_ne (by omega)]
      exact thr_6 u _
    · show nI (tPol n s r q (act (v.1 560) k) (0, (thr u (nI 0)).1 566)).1 = nI (tPol n s r q (act (v.1 560) k) (0, v.1 558)).1
      rw [hE.1]
    · exact (J_txt hJ hu hE (tPol_b n s r q _ rfl hn hs hr hq)).mono (by omega)
