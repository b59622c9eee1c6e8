/-! outcomes: by a table and by sets -/
def bt (x k : Nat) : Bool := decide (x / 2 ^ k % 2 = 1)
set_option maxRecDepth 100000 in
theorem bt_i : ∀ k, k < 8 → ∀ x, x < 256 → ((nI x >>> (nI k &&& 31)) &&& (1 : Int32)) = (if bt x k = true then nI 1 else nI 0) := by decide +kernel
set_option maxRecDepth 100000 in
theorem bt_hi : ∀ n, n < 8 → ∀ x, x < 2 ^ n → ∀ k, k < n → bt (2 ^ n + x) k = bt x k := by decide +kernel
set_option maxRecDepth 100000 in
theorem bt_top : ∀ n, n < 8 → ∀ x, x < 2 ^ n → bt (2 ^ n + x) n = true ∧ bt x n = false := by decide +kernel
theorem sh_n : ∀ n, n < 9 → ((1 : Int32) <<< (nI n &&& 31)) = nI (2 ^ n) := by decide +kernel
theorem pow8 : ∀ n, n < 9 → 2 ^ n ≤ 256 := by decide +kernel
def sL (f : Nat → Int64) : Nat → Int64
  | 0 => 0
  | n + 1 => sL f n + f n
theorem sL_congr {f g : Nat → Int64} : ∀ {n : Nat}, (∀ i, i < n → f i = g i) → sL f n = sL g n := by
  intro n
  induction n with
  | zero => intro _; rfl
  | succ n ih =>
    intro h
    show sL f n + f n = sL g n + g n
    rw [ih fun i hi => h i (by omega), h n (by omega)]
theorem sL_add (f : Nat → Int64) (m : Nat) : ∀ k : Nat, sL f (m + k) = sL f m + sL (fun i => f (m + i)) k := by
  intro k
  induction k with
  | zero => exact (Int64.add_zero _).symm
  | succ k ih =>
    show sL f (m + k) + f (m + k) = sL f m + (sL (fun i => f (m + i)) k + f (m + k))
    rw [ih, Int64.add_assoc]
theorem sL_mul (f : Nat → Int64) (c : Int64) : ∀ n : Nat, sL (fun i => f i * c) n = sL f n * c := by
  intro n
  induction n with
  | zero => exact (Int64.zero_mul).symm
  | succ n ih =>
    show sL (fun i => f i * c) n + f n * c = (sL f n + f n) * c
    rw [ih, Int64.add_mul]
theorem sL_plus (f g : Nat → Int64) : ∀ n : Nat, sL (fun i => f i + g i) n = sL f n + sL g n := by
  intro n
  induction n with
  | zero => exact (Int64.add_zero _).symm
  | succ n ih =>
    show sL (fun i => f i + g i) n + (f n + g n) = sL f n + f n + (sL g n + g n)
    rw [ih, Int64.add_assoc, Int64.add_assoc, ← Int64.add_assoc (sL g n), Int64.add_comm (sL g n) (f n), Int64.add_assoc]
theorem lp_sL (f : Nat → Int64) : ∀ n : Nat, lp (fun i a => a + f i) n 0 0 = sL f n := by
  intro n
  induction n with
  | zero => rfl
  | succ n ih =>
    rw [lp_last, ih, Nat.zero_add]
    rfl
def wy (A : Nat → Bool) (p q : Nat → Int64) (x k : Nat) : Int64 := if A k = true then (if bt x k = true then p k else q k) else (if bt x k = true then 0 else 1)
def wyN (A : Nat → Bool) (p q : Nat → Int64) (x : Nat) : Nat → Int64
  | 0 => 1
  | n + 1 => wyN A p q x n * wy A p q x n
def lsN (s : Nat → Nat) (x : Nat) : Nat → Nat
  | 0 => 0
  | n + 1 => lsN s x n + (if bt x n = true then s n else 0)
def SN (A : Nat → Bool) (s : Nat → Nat) (p q : Nat → Int64) (n M : Nat) : Int64 := sL (fun x => if lsN s x n < M then wyN A p q x n else 0) (2 ^ n)
theorem lsN_hi (s : Nat → Nat) {n x : Nat} (hn : n < 8) (hx : x < 2 ^ n) : ∀ k : Nat, k ≤ n → lsN s (2 ^ n + x) k = lsN s x k := by
  intro k
  induction k with
  | zero => intro _; rfl
  | succ k ih =>
    intro hk
    show lsN s (2 ^ n + x) k + (if bt (2 ^ n + x) k = true then s k else 0) = lsN s x k + (if bt x k = true then s k else 0)
    rw [ih (by omega), bt_hi n hn x hx k (by omega)]
theorem wyN_hi (A : Nat → Bool) (p q : Nat → Int64) {n x : Nat} (hn : n < 8) (hx : x < 2 ^ n) : ∀ k : Nat, k ≤ n → wyN A p q (2 ^ n + x) k = wyN A p q x k := by
  intro k
  induction k with
  | zero => intro _; rfl
  | succ k ih =>
    intro hk
    show wyN A p q (2 ^ n + x) k * wy A p q (2 ^ n + x) k = wyN A p q x k * wy A p q x k
    unfold wy
    rw [ih (by omega), bt_hi n hn x hx k (by omega)]
theorem SN_s (A : Nat → Bool) (s : Nat → Nat) (p q : Nat → Int64) {n : Nat} (hn : n < 8) (M : Nat) : SN A s p q (n + 1) M = if A n = true then SN A s p q n M * q n + SN A s p q n (M - s n) * p n else SN A s p q n M := by
  have h1 : sL (fun x => if lsN s x (n + 1) < M then wyN A p q x (n + 1) else 0) (2 ^ n) = SN A s p q n M * (if A n = true then q n else 1) := by
    unfold SN
    rw [← sL_mul]
    refine sL_congr fun x hx => ?_
    have hb := (bt_top n hn x hx).2
    show (if lsN s x n + (if bt x n = true then s n else 0) < M then wyN A p q x n * wy A p q x n else 0) = _
    unfold wy
    rw [hb, if_neg Bool.false_ne_true, if_neg Bool.false_ne_true, if_neg Bool.false_ne_true, Nat.add_zero]
    by_cases hl : lsN s x n < M
    · rw [if_pos hl, if_pos hl]
    · rw [if_neg hl, if_neg hl, Int64.zero_mul]
  have h2 : sL (fun x => if lsN s (2 ^ n + x) (n + 1) < M then wyN A p q (2 ^ n + x) (n + 1) else 0) (2 ^ n) = SN A s p q n (M - s n) * (if A n = true then p n else 0) := by
    unfold SN
    rw [← sL_mul]
    refine sL_congr fun x hx => ?_
    have hb := (bt_top n hn x hx).1
    show (if lsN s (2 ^ n + x) n + (if bt (2 ^ n + x) n = true then s n else 0) < M then wyN A p q (2 ^ n + x) n * wy A p q (2 ^ n + x) n else 0) = _
    unfold wy
    rw [hb, if_pos rfl, if_pos rfl, if_pos rfl, lsN_hi s hn hx n (Nat.le_refl _), wyN_hi A p q hn hx n (Nat.le_refl _)]
    by_cases hl : lsN s x n < M - s n
    · rw [if_pos (by omega), if_pos hl]
    · rw [if_neg (by omega), if_neg hl, Int64.zero_mul]
  have h3 : SN A s p q (n + 1) M = sL (fun x => if lsN s x (n + 1) < M then wyN A p q x (n + 1) else 0) (2 ^ n) + sL (fun x => if lsN s (2 ^ n + x) (n + 1) < M then wyN A p q (2 ^ n + x) (n + 1) else 0) (2 ^ n) := by
    show sL (fun x => if lsN s x (n + 1) < M then wyN A p q x (n + 1) else 0) (2 ^ (n + 1)) = _
    rw [Nat.pow_succ, Nat.mul_two, sL_add]
  rw [h3, h1, h2]
  cases A n with
  | true => rfl
  | false =>
    rw [if_neg Bool.false_ne_true, if_neg Bool.false_ne_true, if_neg Bool.false_ne_true, Int64.mul_one, Int64.mul_zero, Int64.add_zero]
def TN (A : Nat → Bool) (s : Nat → Nat) (p q : Nat → Int64) : Nat → Nat → Int64
  | 0, l => if l = 0 then 1 else 0
  | k + 1, l => if A k = true then TN A s p q k l * q k + (if l < s k then 0 else TN A s p q k (l - s k) * p k) else TN A s p q k l
theorem sL_shift (T : Nat → Int64) (s : Nat) (c : Int64) : ∀ M : Nat, sL (fun l => if l < s then 0 else T (l - s) * c) M = sL T (M - s) * c := by
  intro M
  induction M with
  | zero =>
    rw [Nat.zero_sub]
    exact (Int64.zero_mul).symm
  | succ M ih =>
    show sL (fun l => if l < s then 0 else T (l - s) * c) M + (if M < s then 0 else T (M - s) * c) = _
    rw [ih]
    by_cases h : M < s
    · rw [if_pos h, show M + 1 - s = 0 by omega, show M - s = 0 by omega, Int64.add_zero]
    · rw [if_neg h, show M + 1 - s = (M - s) + 1 by omega]
      show sL T (M - s) * c + T (M - s) * c = (sL T (M - s) + T (M - s)) * c
      rw [Int64.add_mul]
theorem tab_sets (A : Nat → Bool) (s : Nat → Nat) (p q : Nat → Int64) : ∀ n : Nat, n ≤ 8 → ∀ M : Nat, sL (TN A s p q n) M = SN A s p q n M := by
  intro n
  induction n with
  | zero =>
    intro _ M
    have h : ∀ M : Nat, sL (TN A s p q 0) M = if 0 < M then 1 else 0 := by
      intro M
      induction M with
      | zero => rfl
      | succ M ih =>
        show sL (TN A s p q 0) M + (if M = 0 then 1 else 0) = if 0 < M + 1 then 1 else 0
        rw [ih, if_pos (show 0 < M + 1 by omega)]
        by_cases h : M = 0
        · rw [if_neg (by omega), if_pos h]
          rfl
        · rw [if_pos (by omega), if_neg h]
          rfl
    rw [h]
    show (if 0 < M then (1 : Int64) else 0) = 0 + (if 0 < M then (1 : Int64) else 0)
    rw [Int64.zero_add]
  | succ n ih =>
    intro hn M
    rw [SN_s A s p q (by omega) M, ← ih (by omega) M, ← ih (by omega) (M - s n)]
    by_cases h : A n = true
    · rw [if_pos h, ← sL_shift, ← sL_mul, ← sL_plus]
      exact sL_congr fun l _ => if_pos h
    · rw [if_neg h]
      exact sL_congr fun l _ => if_neg h
/-! the data of a row -/
def wS (w : Nat → Int32) (k : Nat) : Nat := (w (8 + 8 * k + 1)).toInt.toNat
def wP0 (w : Nat → Int32) (k : Nat) : Int64 := (w (8 + 8 * k + 2)).toInt64
def wQ0 (w : Nat → Int32) (k : Nat) : Int64 := (nI 8 - w (8 + 8 * k + 2)).toInt64
def out (w : Nat → Int32) (n M : Nat) : Int64 := SN (act w) (wS w) (wP0 w) (wQ0 w) n M
theorem wS_eq {B : Nat} {w : Nat → Int32} {np k : Nat} (wp : WFp B w np) (hk : k < np) : w (8 + 8 * k + 1) = nI (wS w k) ∧ 1 ≤ wS w k ∧ wS w k ≤ 30 := by
  have h := wp.1 k hk
  unfold WFp1 at h
  unfold wS
  exact ⟨i_nn (by omega), by omega, by omega⟩
theorem lsN_le {B : Nat} {w : Nat → Int32} {np : Nat} (wp : WFp B w np) (x : Nat) : ∀ n : Nat, n ≤ np → lsN (wS w) x n ≤ 30 * n := by
  intro n
  induction n with
  | zero => intro _; exact Nat.le_refl _
  | succ n ih =>
    intro hn
    have h1 := ih (by omega)
    have h2 := (wS_eq wp (k := n) (by omega)).2.2
    show lsN (wS w) x n + (if bt x n = true then wS w n else 0) ≤ 30 * (n + 1)
    split <;> omega
/-- a loss is 240 at most -/
theorem out_240 {B : Nat} {w : Nat → Int32} {np : Nat} (wp : WFp B w np) (hn : np ≤ 8) {M : Nat} (hM : 241 ≤ M) : out w np M = out w np 241 := by
  unfold out SN
  refine sL_congr fun x _ => ?_
  have h := lsN_le wp x np (Nat.le_refl _)
  rw [if_pos (by omega), if_pos (by omega)]
def lpN (s : Nat → Nat) (x m k a : Nat) : Nat := lp (fun k a => a + (if bt x k = true then s k else 0)) m k a
theorem lpN_lsN (s : Nat → Nat) (x : Nat) : ∀ n : Nat, lpN s x n 0 0 = lsN s x n := by
  intro n
  induction n with
  | zero => rfl
  | succ n ih =>
    unfold lpN at ih ⊢
    rw [lp_last, ih, Nat.zero_add]
    rfl
def lpW (A : Nat → Bool) (p q : Nat → Int64) (x m k : Nat) (a : Int64) : Int64 := lp (fun k a => a * wy A p q x k) m k a
theorem lpW_wyN (A : Nat → Bool) (p q : Nat → Int64) (x : Nat) : ∀ n : Nat, lpW A p q x n 0 1 = wyN A p q x n := by
  intro n
  induction n with
  | zero => rfl
  | succ n ih =>
    unfold lpW at ih ⊢
    rw [lp_last, ih, Nat.zero_add]
    rfl
theorem lpW_0 (A : Nat → Bool) (p q : Nat → Int64) (x : Nat) : ∀ m k : Nat, lpW A p q x m k 0 = 0 := by
  intro m
  induction m with
  | zero => intro k; rfl
  | succ m ih =>
    intro k
    show lp _ m (k + 1) (0 * wy A p q x k) = 0
    rw [Int64.zero_mul]
    exact ih (k + 1)
theorem L_X12_lossOf (u : gV) {x n : Nat} (s : Nat → Nat) (hx : x < 256) (h0 : u.1 560 0 = nI n) (hn : n ≤ 8) (hs : ∀ k, k < n → u.1 560 (8 + 8 * k + 1) = nI (s k)) : ∀ (m k fuel a : Nat), k + m = n → m < fuel → p_X12_lossOf_4 fuel (nI x) (nI a) (nI k) u ∧ f_X12_lossOf_4 fuel (nI x) (nI a) (nI k) u = nI (lpN s x m k a) := by
  intro m
  induction m with
  | zero =>
    intro k fuel a hk hf
    obtain ⟨f, rfl⟩ := fuel_s hf
    have hle : nI n ≤ nI k := nI_le (by omega) (by omega)
    have h0' : u.1 560 (0 : Int32).toNatClampNeg = nI n := h0
    rw [p_X12_lossOf_4, f_X12_lossOf_4, h0', if_pos hle]
    exact ⟨⟨fun _ => trivial, fun h => absurd hle h⟩, rfl⟩
  | succ m ih =>
    intro k fuel a hk hf
    obtain ⟨f, rfl⟩ := fuel_s hf
    have hle : ¬ nI n ≤ nI k := nI_ge (by omega) (by omega)
    have h0' : u.1 560 (0 : Int32).toNatClampNeg = nI n := h0
    have hp : p_X12_p (nI k) (1 : Int32) u := P_X12_p u (k := k) (o := 1) (by omega)
    have hf1 : f_X12_p (nI k) (1 : Int32) u = nI (s k) := (F_X12_p u (k := k) (o := 1) (by omega)).trans (hs k (by omega))
    have hv : nI a + ((nI x >>> (nI k &&& 31)) &&& (1 : Int32)) * nI (s k) = nI (a + (if bt x k = true then s k else 0)) := by
      rw [bt_i k (by omega) x hx]
      cases bt x k with
      | true =>
        rw [if_pos rfl, if_pos rfl, nI_mul, Nat.one_mul, nI_add]
      | false =>
        rw [if_neg Bool.false_ne_true, if_neg Bool.false_ne_true, nI_mul, Nat.zero_mul, nI_add]
    have hi := ih (k + 1) f (a + (if bt x k = true then s k else 0)) (by omega) (by omega)
    rw [p_X12_lossOf_4, f_X12_lossOf_4, h0', if_neg hle, hf1, hv, nI_1]
    exact ⟨⟨fun h => absurd h hle, fun _ => ⟨hp, hi.1⟩⟩, hi.2⟩
theorem K_X12_lossOf (u : gV) {x n : Nat} (s : Nat → Nat) (hx : x < 256) (h0 : u.1 560 0 = nI n) (hn : n ≤ 8) (hs : ∀ k, k < n → u.1 560 (8 + 8 * k + 1) = nI (s k)) : p_X12_lossOf (nI x) u ∧ f_X12_lossOf (nI x) u = nI (lsN s x n) := by
  have h := L_X12_lossOf u s hx h0 hn hs n 0 5000 0 (by omega) (by omega)
  rw [lpN_lsN] at h
  exact h
theorem bt_1 {x k : Nat} (hk : k < 8) (hx : x < 256) : (((nI x >>> (nI k &&& 31)) &&& (1 : Int32)) = (1 : Int32)) ↔ bt x k = true := by
  rw [bt_i k hk x hx]
  cases bt x k with
  | true => exact ⟨fun _ => rfl, fun _ => rfl⟩
  | false => exact ⟨fun h => absurd h (by decide +kernel), fun h => by cases h⟩
theorem L_X5_lossOf (v : gV) {x n : Nat} (s : Nat → Nat) (hx : x < 256) (h0 : v.1 2 1 = nI n) (hn : n ≤ 8) (hs : ∀ k, k < n → v.1 4 k = nI (s k)) : ∀ (m k fuel a : Nat), k + m = n → m < fuel → p_X5_lossOfSet_4 1 fuel (nI x) (nI a) (nI k) v ∧ f_X5_lossOfSet_4 1 fuel (nI x) (nI a) (nI k) v = nI (lpN s x m k a) := by
  intro m
  induction m with
  | zero =>
    intro k fuel a hk hf
    obtain ⟨f, rfl⟩ := fuel_s hf
    have hle : nI n ≤ nI k := nI_le (by omega) (by omega)
    have h0' : v.1 (1 + 1) 1 = nI n := h0
    rw [p_X5_lossOfSet_4, f_X5_lossOfSet_4, h0', if_pos hle]
    exact ⟨⟨fun _ => trivial, fun h => absurd hle h⟩, rfl⟩
  | succ m ih =>
    intro k fuel a hk hf
    obtain ⟨f, rfl⟩ := fuel_s hf
    have hle : ¬ nI n ≤ nI k := nI_ge (by omega) (by omega)
    have h0' : v.1 (1 + 1) 1 = nI n := h0
    have hs' : v.1 (1 + 3) (nI k).toNatClampNeg = nI (s k) := by
      rw [cl_n (by omega)]
      exact hs k (by omega)
    have hv : vp_in (nI k) 8 := vi_n (by omega) (by omega)
    have hb := bt_1 (x := x) (k := k) (by omega) hx
    have hi := ih (k + 1) f (a + (if bt x k = true then s k else 0)) (by omega) (by omega)
    have hst : lpN s x (m + 1) k a = lpN s x m (k + 1) (a + (if bt x k = true then s k else 0)) := rfl
    rw [p_X5_lossOfSet_4, f_X5_lossOfSet_4, h0', if_neg hle, hst]
    simp only [f_X5_lossOfSet_30, p_X5_lossOfSet_30, nI_1, hs', nI_add]
    cases hbt : bt x k with
    | true =>
      rw [hbt, if_pos rfl] at hi
      have hc := hb.mpr hbt
      rw [if_pos hc, if_pos rfl]
      exact ⟨⟨fun h => absurd h hle, fun _ => ⟨fun _ => ⟨hv, hi.1⟩, fun h => absurd hc h⟩⟩, hi.2⟩
    | false =>
      rw [hbt, if_neg Bool.false_ne_true] at hi
      have hc : ¬ (((nI x >>> (nI k &&& 31)) &&& (1 : Int32)) = (1 : Int32)) := fun h => by rw [hb.mp h] at hbt; cases hbt
      rw [if_neg hc, if_neg Bool.false_ne_true]
      exact ⟨⟨fun h => absurd h hle, fun _ => ⟨fun h => absurd h hc, fun _ => hi.1⟩⟩, hi.2⟩
theorem K_X5_lossOf (v : gV) {x n : Nat} (s : Nat → Nat) (hx : x < 256) (h0 : v.1 2 1 = nI n) (hn : n ≤ 8) (hs : ∀ k, k < n → v.1 4 k = nI (s k)) : p_X5_lossOfSet 1 (nI x) v ∧ f_X5_lossOfSet 1 (nI x) v = nI (lsN s x n) := by
  have h := L_X5_lossOf v s hx h0 hn hs n 0 5000 0 (by omega) (by omega)
  rw [lpN_lsN] at h
  exact h
theorem L_X12_soaking (u : gV) {w : Nat → Int32} (hw : u.1 560 = w) {x n : Nat} (hx : x < 256) (h0 : w 0 = nI n) (hn : n ≤ 8) : ∀ (m k fuel : Nat) (a : Int64), k + m = n → m < fuel → p_X12_soaking_5 fuel (nI x) a (nI k) u ∧ f_X12_soaking_5 fuel (nI x) a (nI k) u = lpW (act w) (wP0 w) (wQ0 w) x m k a := by
  intro m
  induction m with
  | zero =>
    intro k fuel a hk hf
    obtain ⟨f, rfl⟩ := fuel_s hf
    have hle : nI n ≤ nI k := nI_le (by omega) (by omega)
    have h0' : u.1 560 (0 : Int32).toNatClampNeg = nI n := by rw [hw]; exact h0
    rw [p_X12_soaking_5, f_X12_soaking_5, h0', if_pos hle]
    exact ⟨⟨fun _ => trivial, fun h => absurd hle h⟩, rfl⟩
  | succ m ih =>
    intro k fuel a hk hf
    obtain ⟨f, rfl⟩ := fuel_s hf
    have hle : ¬ nI n ≤ nI k := nI_ge (by omega) (by omega)
    have h0' : u.1 560 (0 : Int32).toNatClampNeg = nI n := by rw [hw]; exact h0
    have hp : p_X12_p (nI k) (2 : Int32) u := P_X12_p u (k := k) (o := 2) (by omega)
    have hf1 : f_X12_p (nI k) (2 : Int32) u = w (8 + 8 * k + 2) := by
      rw [← hw]
      exact F_X12_p u (k := k) (o := 2) (by omega)
    have hA := F_X12_isActiveAt u (k := k) (by omega)
    have hAp := P_X12_isActiveAt u (k := k) (by omega)
    rw [hw] at hA
    have hb := bt_1 (x := x) (k := k) (by omega) hx
    have hi := ih (k + 1) f (a * wy (act w) (wP0 w) (wQ0 w) x k) (by omega) (by omega)
    have hst : lpW (act w) (wP0 w) (wQ0 w) x (m + 1) k a = lpW (act w) (wP0 w) (wQ0 w) x m (k + 1) (a * wy (act w) (wP0 w) (wQ0 w) x k) := rfl
    have n10' : ¬ (1 : Int32) = 0 := n10
    rw [p_X12_soaking_5, f_X12_soaking_5, h0', if_neg hle, hst]
    unfold wy at hi ⊢
    cases hbt : bt x k with
    | true =>
      have hc := hb.mpr hbt
      rw [hbt] at hi
      rw [if_pos hc]
      cases hac : act w k with
      | true =>
        rw [hac] at hA hi
        simp only [if_true, reduceIte] at hA hi ⊢
        have hA' : ¬ f_X12_isActiveAt (nI k) u = 0 := by rw [hA]; exact n10
        simp only [f_X12_soaking_31, p_X12_soaking_31, f_X12_soaking_70, p_X12_soaking_70, f_X12_soaking_88, p_X12_soaking_88, nI_1, hA', hAp, hp, hf1, n10', if_false]
        exact ⟨⟨fun h => absurd h hle, fun _ => ⟨fun _ => ⟨trivial, fun h => h.elim, fun _ => ⟨fun h => h.elim, fun _ => ⟨trivial, hi.1⟩⟩⟩, fun h => absurd hc h⟩⟩, hi.2⟩
      | false =>
        rw [hac] at hA hi
        simp only [Bool.false_eq_true, if_true, if_false, reduceIte] at hA hi ⊢
        have hA' : f_X12_isActiveAt (nI k) u = 0 := hA
        simp only [f_X12_soaking_31, p_X12_soaking_31, f_X12_soaking_86, p_X12_soaking_86, f_X12_soaking_88, p_X12_soaking_88, nI_1, hA', hAp, n10', if_true, if_false]
        exact ⟨⟨fun h => absurd h hle, fun _ => ⟨fun _ => ⟨trivial, fun _ => ⟨fun h => h.elim, fun _ => hi.1⟩, fun h => absurd trivial h⟩, fun h => absurd hc h⟩⟩, hi.2⟩
    | false =>
      have hc : ¬ (((nI x >>> (nI k &&& 31)) &&& (1 : Int32)) = (1 : Int32)) := fun h => by rw [hb.mp h] at hbt; cases hbt
      rw [hbt] at hi
      rw [if_neg hc]
      cases hac : act w k with
      | true =>
        rw [hac] at hA hi
        simp only [Bool.false_eq_true, if_true, if_false, reduceIte] at hA hi ⊢
        have hA' : ¬ f_X12_isActiveAt (nI k) u = 0 := by rw [hA]; exact n10
        simp only [f_X12_soaking_31, p_X12_soaking_31, f_X12_soaking_70, p_X12_soaking_70, f_X12_soaking_88, p_X12_soaking_88, nI_1, hA', hAp, hp, hf1, if_true, if_false]
        exact ⟨⟨fun h => absurd h hle, fun _ => ⟨fun h => absurd h hc, fun _ => ⟨trivial, fun h => h.elim, fun _ => ⟨fun _ => ⟨trivial, hi.1⟩, fun h => absurd trivial h⟩⟩⟩⟩, hi.2⟩
      | false =>
        rw [hac] at hA hi
        simp only [Bool.false_eq_true, if_true, if_false, reduceIte] at hA hi ⊢
        have hA' : f_X12_isActiveAt (nI k) u = 0 := hA
        simp only [f_X12_soaking_31, p_X12_soaking_31, f_X12_soaking_86, p_X12_soaking_86, f_X12_soaking_88, p_X12_soaking_88, nI_1, hA', hAp, if_true, if_false]
        exact ⟨⟨fun h => absurd h hle, fun _ => ⟨fun h => absurd h hc, fun _ => ⟨trivial, fun _ => ⟨fun _ => hi.1, fun h => absurd trivial h⟩, fun h => absurd trivial h⟩⟩⟩, hi.2⟩
theorem K_X12_soaking (u : gV) {w : Nat → Int32} (hw : u.1 560 = w) {x n : Nat} (hx : x < 256) (h0 : w 0 = nI n) (hn : n ≤ 8) : p_X12_soaking (nI x) u ∧ f_X12_soaking (nI x) u = wyN (act w) (wP0 w) (wQ0 w) x n := by
  have h := L_X12_soaking u hw hx h0 hn n 0 5000 1 (by omega) (by omega)
  rw [lpW_wyN] at h
  exact h
theorem L_X5_ways {v : gV} {w : Nat → Int32} {x n : Nat} (hx : x < 256) (h0 : v.1 2 1 = nI n) (hn : n ≤ 8) (bp : BRp v 1 w n) : ∀ (m k fuel : Nat) (a : Int64), k + m = n → m < fuel → p_X5_waysOfSet_5 1 fuel (nI x) (w 6) a (nI k) v ∧ f_X5_waysOfSet_5 1 fuel (nI x) (w 6) a (nI k) v = lpW (act w) (wP0 w) (wQ0 w) x m k a := by
  intro m
  induction m with
  | zero =>
    intro k fuel a hk hf
    obtain ⟨f, rfl⟩ := fuel_s hf
    have hle : nI n ≤ nI k := nI_le (by omega) (by omega)
    have h0' : v.1 (1 + 1) 1 = nI n := h0
    rw [p_X5_waysOfSet_5, f_X5_waysOfSet_5, h0', if_pos hle]
    exact ⟨⟨fun _ => trivial, fun h => absurd hle h⟩, rfl⟩
  | succ m ih =>
    intro k fuel a hk hf
    obtain ⟨f, rfl⟩ := fuel_s hf
    have hle : ¬ nI n ≤ nI k := nI_ge (by omega) (by omega)
    have h0' : v.1 (1 + 1) 1 = nI n := h0
    have hf1 : v.1 (1 + 4) (nI k).toNatClampNeg = w (8 + 8 * k + 2) := by
      rw [cl_n (by omega)]
      exact (bp k (by omega)).2.2.1
    have hv : vp_in (nI k) 8 := vi_n (by omega) (by omega)
    have hA := F_act hn bp (k := k) (by omega)
    have hAp := P_X5_isActiveAt v (w 6) (k := k) (by omega)
    have hb := bt_1 (x := x) (k := k) (by omega) hx
    have hi := ih (k + 1) f (a * wy (act w) (wP0 w) (wQ0 w) x k) (by omega) (by omega)
    have hst : lpW (act w) (wP0 w) (wQ0 w) x (m + 1) k a = lpW (act w) (wP0 w) (wQ0 w) x m (k + 1) (a * wy (act w) (wP0 w) (wQ0 w) x k) := rfl
    have n10' : ¬ (1 : Int32) = 0 := n10
    rw [p_X5_waysOfSet_5, f_X5_waysOfSet_5, h0', if_neg hle, hst]
    unfold wy at hi ⊢
    cases hbt : bt x k with
    | true =>
      have hc := hb.mpr hbt
      rw [hbt] at hi
      rw [if_pos hc]
      cases hac : act w k with
      | true =>
        rw [hac] at hA hi
        simp only [if_true, reduceIte] at hA hi ⊢
        have hA' : ¬ f_X5_isActiveAt 1 (nI k) (w 6) v = 0 := by rw [hA]; exact n10
        simp only [f_X5_waysOfSet_29, p_X5_waysOfSet_29, f_X5_waysOfSet_69, p_X5_waysOfSet_69, f_X5_waysOfSet_81, p_X5_waysOfSet_81, nI_1, hA', hAp, hv, hf1, n10', if_false]
        exact ⟨⟨fun h => absurd h hle, fun _ => ⟨fun _ => ⟨trivial, fun h => h.elim, fun _ => ⟨fun h => h.elim, fun _ => ⟨trivial, hi.1⟩⟩⟩, fun h => absurd hc h⟩⟩, hi.2⟩
      | false =>
        rw [hac] at hA hi
        simp only [Bool.false_eq_true, if_true, if_false, reduceIte] at hA hi ⊢
        have hA' : f_X5_isActiveAt 1 (nI k) (w 6) v = 0 := hA
        simp only [f_X5_waysOfSet_29, p_X5_waysOfSet_29, f_X5_waysOfSet_81, p_X5_waysOfSet_81, nI_1, hA', hAp, n10', if_true, if_false]
        refine ⟨⟨fun h => absurd h hle, fun _ => ⟨fun _ => ⟨trivial, fun _ => ⟨fun h => h.elim, fun _ => trivial⟩, fun h => absurd trivial h⟩, fun h => absurd hc h⟩⟩, ?_⟩
        rw [Int64.mul_zero]
        exact (lpW_0 _ _ _ x m (k + 1)).symm
    | false =>
      have hc : ¬ (((nI x >>> (nI k &&& 31)) &&& (1 : Int32)) = (1 : Int32)) := fun h => by rw [hb.mp h] at hbt; cases hbt
      rw [hbt] at hi
      rw [if_neg hc]
      cases hac : act w k with
      | true =>
        rw [hac] at hA hi
        simp only [Bool.false_eq_true, if_true, if_false, reduceIte] at hA hi ⊢
        have hA' : ¬ f_X5_isActiveAt 1 (nI k) (w 6) v = 0 := by rw [hA]; exact n10
        simp only [f_X5_waysOfSet_29, p_X5_waysOfSet_29, f_X5_waysOfSet_69, p_X5_waysOfSet_69, f_X5_waysOfSet_81, p_X5_waysOfSet_81, nI_1, hA', hAp, hv, hf1, if_true, if_false]
        exact ⟨⟨fun h => absurd h hle, fun _ => ⟨fun h => absurd h hc, fun _ => ⟨trivial, fun h => h.elim, fun _ => ⟨fun _ => ⟨trivial, hi.1⟩, fun h => absurd trivial h⟩⟩⟩⟩, hi.2⟩
      | false =>
        rw [hac] at hA hi
        simp only [Bool.false_eq_true, if_true, if_false, reduceIte, Int64.mul_one] at hA hi ⊢
        have hA' : f_X5_isActiveAt 1 (nI k) (w 6) v = 0 := hA
        simp only [f_X5_waysOfSet_29, p_X5_waysOfSet_29, f_X5_waysOfSet_81, p_X5_waysOfSet_81, nI_1, hA', hAp, if_true, if_false]
        exact ⟨⟨fun h => absurd h hle, fun _ => ⟨fun h => absurd h hc, fun _ => ⟨trivial, fun _ => ⟨fun _ => hi.1, fun h => absurd trivial h⟩, fun h => absurd trivial h⟩⟩⟩, hi.2⟩
theorem K_X5_ways {v : gV} {w : Nat → Int32} {x n : Nat} (hx : x < 256) (h0 : v.1 2 1 = nI n) (hn : n ≤ 8) (bp : BRp v 1 w n) : p_X5_waysOfSet 1 (nI x) (w 6) v ∧ f_X5_waysOfSet 1 (nI x) (w 6) v = wyN (act w) (wP0 w) (wQ0 w) x n := by
  have h := L_X5_ways hx h0 hn bp n 0 5000 1 (by omega) (by omega)
  rw [lpW_wyN] at h
  exact h
/-! over all sets -/
def stp (w : Nat → Int32) (n M x : Nat) : Int64 := if lsN (wS w) x n < M then wyN (act w) (wP0 w) (wQ0 w) x n else 0
theorem L_X12_within {B : Nat} (u : gV) {w : Nat → Int32} (hw : u.1 560 = w) {n M : Nat} {y : Int32} (h0 : w 0 = nI n) (hn : n ≤ 8) (wp : WFp B w n) (hy : y.toInt + 1 = (M : Int)) : ∀ (m x fuel : Nat) (a : Int64), x + m = 2 ^ n → m < fuel → p_X12_within_27 fuel y a (nI x) u ∧ f_X12_within_27 fuel y a (nI x) u = (lp (fun x a => a + stp w n M x) m x a, u) := by
  have hpow := pow8 n (by omega)
  intro m
  induction m with
  | zero =>
    intro x fuel a hk hf
    obtain ⟨f, rfl⟩ := fuel_s hf
    have h0' : u.1 560 (0 : Int32).toNatClampNeg = nI n := by rw [hw]; exact h0
    have hle : nI (2 ^ n) ≤ nI x := nI_le (by omega) (by omega)
    rw [p_X12_within_27, f_X12_within_27, h0', sh_n n (by omega), if_pos hle]
    exact ⟨⟨fun _ => trivial, fun h => absurd hle h⟩, rfl⟩
  | succ m ih =>
    intro x fuel a hk hf
    obtain ⟨f, rfl⟩ := fuel_s hf
    have h0' : u.1 560 (0 : Int32).toNatClampNeg = nI n := by rw [hw]; exact h0
    have hle : ¬ nI (2 ^ n) ≤ nI x := nI_ge (by omega) (by omega)
    obtain ⟨l1, l2⟩ := K_X12_lossOf u (x := x) (wS w) (by omega) (by rw [hw]; exact h0) hn fun k hk => by rw [hw]; exact (wS_eq wp hk).1
    obtain ⟨s1, s2⟩ := K_X12_soaking u hw (x := x) (by omega) h0 hn
    have hl := lsN_le wp x n (Nat.le_refl _)
    have hi := ih (x + 1) f (a + stp w n M x) (by omega) (by omega)
    have hst : lp (fun x a => a + stp w n M x) (m + 1) x a = lp (fun x a => a + stp w n M x) m (x + 1) (a + stp w n M x) := rfl
    rw [p_X12_within_27, f_X12_within_27, h0', sh_n n (by omega), if_neg hle, hst, l2, s2]
    simp only [f_X12_within_61, p_X12_within_61, nI_1]
    by_cases hc : y < nI (lsN (wS w) x n)
    · have hc2 := hc
      rw [i_lt, tI (by omega)] at hc2
      have e : stp w n M x = 0 := if_neg (by omega)
      rw [e] at hi ⊢
      rw [if_pos hc]
      exact ⟨⟨fun h => absurd h hle, fun _ => ⟨l1, fun _ => hi.1, fun h => absurd hc h⟩⟩, hi.2⟩
    · have hc2 := hc
      rw [i_lt, tI (by omega)] at hc2
      have e : stp w n M x = wyN (act w) (wP0 w) (wQ0 w) x n := if_pos (by omega)
      rw [e] at hi ⊢
      rw [if_neg hc]
      exact ⟨⟨fun h => absurd h hle, fun _ => ⟨l1, fun h => absurd h hc, fun _ => ⟨s1, hi.1⟩⟩⟩, hi.2⟩
theorem L_X5_bySets {B : Nat} {v : gV} {w : Nat → Int32} {n M : Nat} {y : Int32} (h0 : v.1 2 1 = nI n) (hn : n ≤ 8) (wp : WFp B w n) (bp : BRp v 1 w n) (hy : y.toInt + 1 = (M : Int)) : ∀ (m x fuel : Nat) (a : Int64), x + m = 2 ^ n → m < fuel → p_X5_countBySets_5 1 fuel y (w 6) a (nI x) v ∧ f_X5_countBySets_5 1 fuel y (w 6) a (nI x) v = lp (fun x a => a + stp w n M x) m x a := by
  have hpow := pow8 n (by omega)
  intro m
  induction m with
  | zero =>
    intro x fuel a hk hf
    obtain ⟨f, rfl⟩ := fuel_s hf
    have h0' : v.1 (1 + 1) 1 = nI n := h0
    have hle : nI (2 ^ n) ≤ nI x := nI_le (by omega) (by omega)
    rw [p_X5_countBySets_5, f_X5_countBySets_5, h0', sh_n n (by omega), if_pos hle]
    exact ⟨⟨fun _ => trivial, fun h => absurd hle h⟩, rfl⟩
  | succ m ih =>
    intro x fuel a hk hf
    obtain ⟨f, rfl⟩ := fuel_s hf
    have h0' : v.1 (1 + 1) 1 = nI n := h0
    have hle : ¬ nI (2 ^ n) ≤ nI x := nI_ge (by omega) (by omega)
    obtain ⟨l1, l2⟩ := K_X5_lossOf v (x := x) (wS w) (by omega) h0 hn fun k hk => (bp k hk).2.1.trans (wS_eq wp hk).1
    obtain ⟨s1, s2⟩ := K_X5_ways (x := x) (by omega) h0 hn bp
    have hl := lsN_le wp x n (Nat.le_refl _)
    have hi := ih (x + 1) f (a + stp w n M x) (by omega) (by omega)
    have hst : lp (fun x a => a + stp w n M x) (m + 1) x a = lp (fun x a => a + stp w n M x) m (x + 1) (a + stp w n M x) := rfl
    rw [p_X5_countBySets_5, f_X5_countBySets_5, h0', sh_n n (by omega), if_neg hle, hst, l2, s2]
    simp only [f_X5_countBySets_36, p_X5_countBySets_36, nI_1]
    by_cases hc : y < nI (lsN (wS w) x n)
    · have hc2 := hc
      rw [i_lt, tI (by omega)] at hc2
      have e : stp w n M x = 0 := if_neg (by omega)
      rw [e, Int64.add_zero] at hi
      rw [e, Int64.add_zero, if_pos hc]
      exact ⟨⟨fun h => absurd h hle, fun _ => ⟨l1, fun _ => hi.1, fun h => absurd hc h⟩⟩, hi.2⟩
    · have hc2 := hc
      rw [i_lt, tI (by omega)] at hc2
      have e : stp w n M x = wyN (act w) (wP0 w) (wQ0 w) x n := if_pos (by omega)
      rw [e] at hi ⊢
      rw [if_neg hc]
      exact ⟨⟨fun h => absurd h hle, fun _ => ⟨l1, fun h => absurd h hc, fun _ => ⟨s1, hi.1⟩⟩⟩, hi.2⟩
theorem stp_out (w : Nat → Int32) (n M : Nat) : lp (fun x a => a + stp w n M x) (2 ^ n) 0 0 = out w n M := lp_sL _ _
theorem K_X5_bySets {B : Nat} {v : gV} {w : Nat → Int32} {n M : Nat} {y : Int32} (h0 : v.1 2 1 = nI n) (hn : n ≤ 8) (wp : WFp B w n) (bp : BRp v 1 w n) (hy : y.toInt + 1 = (M : Int)) : p_X5_countBySets 1 y (w 6) v ∧ f_X5_countBySets 1 y (w 6) v = out w n M := by
  have hpow := pow8 n (by omega)
  have h := L_X5_bySets h0 hn wp bp hy (2 ^ n) 0 5000 0 (by omega) (by omega)
  rw [stp_out] at h
  exact h
/-! the table -/
def vLR (v : gV) (r : Nat → Int64) : gV := (v.1, uprL v.2.1 10 r, v.2.2)
theorem vLR_1 (v : gV) (r : Nat → Int64) : (vLR v r).1 = v.1 := rfl
theorem vLR_at (v : gV) (r : Nat → Int64) : (vLR v r).2.1 10 = r := by
  show (if 10 = 10 then r else v.2.1 10) = r
  rw [if_pos rfl]
theorem vL_LR (v : gV) (r : Nat → Int64) (k : Nat) (x : Int64) : vL (vLR v r) 10 k x = vLR v (vp_updL r k x) := by
  unfold vL vLR
  have h : uprL (uprL v.2.1 10 r) 10 (vp_updL (uprL v.2.1 10 r 10) k x) = uprL v.2.1 10 (vp_updL r k x) := by
    funext a
    unfold uprL
    by_cases h : a = 10
    · rw [if_pos h, if_pos h, if_pos rfl]
    · rw [if_neg h, if_neg h, if_neg h]
  show (v.1, uprL (uprL v.2.1 10 r) 10 (vp_updL (uprL v.2.1 10 r 10) k x), v.2.2) = _
  rw [h]
theorem vLR_self (v : gV) : vLR v (v.2.1 10) = v := by
  have h : uprL v.2.1 10 (v.2.1 10) = v.2.1 := by
    funext a
    unfold uprL
    by_cases h : a = 10
    · rw [if_pos h, h]
    · rw [if_neg h]
  unfold vLR
  rw [h]
theorem updL_eq (r : Nat → Int64) (k : Nat) (x : Int64) : vp_updL r k x k = x := if_pos rfl
theorem updL_ne {r : Nat → Int64} {k i : Nat} {x : Int64} (h : ¬ i = k) : vp_updL r k x i = r i := if_neg h
theorem L_fillL (v : gV) : ∀ (m k fuel : Nat) (r : Nat → Int64), k + m = 241 → m < fuel → p_J7_fill_d0a16_6 10 241 fuel 0 (nI k) (nI 241) (vLR v r) ∧ ∃ r', f_J7_fill_d0a16_6 10 241 fuel 0 (nI k) (nI 241) (vLR v r) = vLR v r' ∧ (∀ i, k ≤ i → i < 241 → r' i = 0) ∧ ∀ i, i < k → r' i = r i := by
  intro m
  induction m with
  | zero =>
    intro k fuel r hk hf
    obtain ⟨f, rfl⟩ := fuel_s hf
    have hle : nI 241 ≤ nI k := nI_le (by omega) (by omega)
    rw [p_J7_fill_d0a16_6, f_J7_fill_d0a16_6, if_pos hle]
    exact ⟨⟨fun _ => trivial, fun h => absurd hle h⟩, r, rfl, fun i a b => by omega, fun i _ => rfl⟩
  | succ m ih =>
    intro k fuel r hk hf
    obtain ⟨f, rfl⟩ := fuel_s hf
    have hle : ¬ nI 241 ≤ nI k := nI_ge (by omega) (by omega)
    obtain ⟨q1, r', q2, q3, q4⟩ := ih (k + 1) f (vp_updL r k 0) (by omega) (by omega)
    have hv : vp_in (nI k) 241 := vi_n (by omega) (by omega)
    rw [p_J7_fill_d0a16_6, f_J7_fill_d0a16_6, if_neg hle, cl_n (by omega), vL_LR]
    simp only [f_J7_fill_d0a16_16, p_J7_fill_d0a16_16, nI_1]
    refine ⟨⟨fun h => absurd h hle, fun _ => ⟨hv, q1⟩⟩, r', q2, fun i a b => ?_, fun i a => ?_⟩
    · by_cases e : i = k
      · subst e
        rw [q4 i (by omega), updL_eq]
      · exact q3 i (by omega) b
    · rw [q4 i (by omega), updL_ne (by omega)]
theorem dec_n (m : Nat) (h : m < 4000) : nI (m + 1) + (-1 : Int32) = nI m := by
  rw [i_eq, ti_add (by rw [ti_neg1, tI (by omega)]; omega) (by rw [ti_neg1, tI (by omega)]; omega), ti_neg1, tI (by omega), tI (by omega)]
  omega
theorem L_addBoat (v : gV) {s : Nat} (R : Int32) (hs : s ≤ 30) : ∀ (m fuel : Nat) (r : Nat → Int64), m ≤ 241 → m < fuel → p_X5_addBoat_4 1 fuel (nI s) R (nI m + (-1 : Int32)) (vLR v r) ∧ ∃ r', f_X5_addBoat_4 1 fuel (nI s) R (nI m + (-1 : Int32)) (vLR v r) = vLR v r' ∧ (∀ i, i < m → r' i = r i * (nI 8 - R).toInt64 + (if i < s then 0 else r (i - s) * R.toInt64)) ∧ ∀ i, m ≤ i → r' i = r i := by
  intro m
  induction m with
  | zero =>
    intro fuel r hm hf
    obtain ⟨f, rfl⟩ := fuel_s hf
    have hlt : nI 0 + (-1 : Int32) < 0 := by decide +kernel
    rw [p_X5_addBoat_4, f_X5_addBoat_4, if_pos hlt]
    exact ⟨⟨fun _ => trivial, fun h => absurd hlt h⟩, r, rfl, fun i a => by omega, fun i _ => rfl⟩
  | succ m ih =>
    intro fuel r hm hf
    obtain ⟨f, rfl⟩ := fuel_s hf
    have hlt : ¬ nI m < 0 := nI_pos (by omega)
    have hv : vp_in (nI m) 241 := vi_n (by omega) (by omega)
    have hcl : (nI m).toNatClampNeg = m := cl_n (by omega)
    have e8 : ((8 : Int32) - R) = nI 8 - R := rfl
    rw [p_X5_addBoat_4, f_X5_addBoat_4, dec_n m (by omega), if_neg hlt]
    by_cases hc : m < s
    · have hc2 : nI m < nI s := by rw [lt_n (by omega) (by omega)]; exact hc
      obtain ⟨q1, r', q2, q3, q4⟩ := ih f (vp_updL r m (r m * (nI 8 - R).toInt64 + 0)) (by omega) (by omega)
      rw [if_pos hc2]
      simp only [f_X5_addBoat_28, p_X5_addBoat_28, f_X5_addBoat_51, p_X5_addBoat_51, Nat.reduceAdd, hcl, vLR_at, vL_LR, e8]
      refine ⟨⟨fun h => absurd h hlt, fun _ => ⟨fun _ => ⟨hv, hv, q1⟩, fun h => absurd hc2 h⟩⟩, r', q2, fun i a => ?_, fun i a => ?_⟩
      · by_cases e : i = m
        · subst e
          rw [q4 i (Nat.le_refl _), updL_eq, if_pos hc]
        · rw [q3 i (by omega), updL_ne e]
          by_cases his : i < s
          · rw [if_pos his, if_pos his]
          · rw [if_neg his, if_neg his, updL_ne (by omega)]
      · rw [q4 i (by omega), updL_ne (by omega)]
    · have hc2 : ¬ nI m < nI s := by rw [lt_n (by omega) (by omega)]; exact hc
      have hsub : nI m - nI s = nI (m - s) := sub_n (by omega)
      have hv2 : vp_in (nI (m - s)) 241 := vi_n (by omega) (by omega)
      have hcl2 : (nI (m - s)).toNatClampNeg = m - s := cl_n (by omega)
      obtain ⟨q1, r', q2, q3, q4⟩ := ih f (vp_updL r m (r m * (nI 8 - R).toInt64 + r (m - s) * R.toInt64)) (by omega) (by omega)
      rw [if_neg hc2]
      simp only [f_X5_addBoat_28, p_X5_addBoat_28, f_X5_addBoat_51, p_X5_addBoat_51, Nat.reduceAdd, hcl, hsub, hcl2, vLR_at, vL_LR, e8]
      refine ⟨⟨fun h => absurd h hlt, fun _ => ⟨fun h => absurd h hc2, fun _ => ⟨hv2, hv, hv, q1⟩⟩⟩, r', q2, fun i a => ?_, fun i a => ?_⟩
      · by_cases e : i = m
        · subst e
          rw [q4 i (Nat.le_refl _), updL_eq, if_neg hc]
        · rw [q3 i (by omega), updL_ne e]
          by_cases his : i < s
          · rw [if_pos his, if_pos his]
          · rw [if_neg his, if_neg his, updL_ne (by omega)]
      · rw [q4 i (by omega), updL_ne (by omega)]
theorem L_sumT (v : gV) (r : Nat → Int64) {y : Int32} {c : Nat} (hc : c < 241) (hy : (if (240 : Int32) < y then (240 : Int32) else y) = nI c) : ∀ (m x fuel : Nat) (a : Int64), x + m = c + 1 → m < fuel → p_X5_countByTable_61 1 fuel y a (nI x) (vLR v r) ∧ f_X5_countByTable_61 1 fuel y a (nI x) (vLR v r) = (lp (fun i a => a + r i) m x a, vLR v r) := by
  intro m
  induction m with
  | zero =>
    intro x fuel a hk hf
    obtain ⟨f, rfl⟩ := fuel_s hf
    have hlt : nI c < nI x := by rw [lt_n (by omega) (by omega)]; omega
    rw [p_X5_countByTable_61, f_X5_countByTable_61, hy, if_pos hlt]
    exact ⟨⟨fun _ => trivial, fun h => absurd hlt h⟩, rfl⟩
  | succ m ih =>
    intro x fuel a hk hf
    obtain ⟨f, rfl⟩ := fuel_s hf
    have hlt : ¬ nI c < nI x := by rw [lt_n (by omega) (by omega)]; omega
    have hv : vp_in (nI x) 241 := vi_n (by omega) (by omega)
    have hi := ih (x + 1) f (a + r x) (by omega) (by omega)
    have ha : (vLR v r).2.1 (1 + 9) (nI x).toNatClampNeg = r x := by
      rw [cl_n (by omega)]
      exact congrFun (vLR_at v r) x
    rw [p_X5_countByTable_61, f_X5_countByTable_61, hy, if_neg hlt, ha, nI_1]
    exact ⟨⟨fun h => absurd h hlt, fun _ => ⟨hv, hi.1⟩⟩, hi.2⟩
theorem L_byTable {B : Nat} {v : gV} {w : Nat → Int32} {n c : Nat} {y : Int32} (h0 : v.1 2 1 = nI n) (hn : n ≤ 8) (wp : WFp B w n) (bp : BRp v 1 w n) (hc : c < 241) (hy : (if (240 : Int32) < y then (240 : Int32) else y) = nI c) : ∀ (m k fuel : Nat) (r : Nat → Int64), k + m = n → m < fuel → (∀ i, i < 241 → r i = TN (act w) (wS w) (wP0 w) (wQ0 w) k i) → p_X5_countByTable_17 1 fuel y (w 6) (nI k) (vLR v r) ∧ ∃ r', f_X5_countByTable_17 1 fuel y (w 6) (nI k) (vLR v r) = (sL (TN (act w) (wS w) (wP0 w) (wQ0 w) n) (c + 1), vLR v r') := by
  intro m
  induction m with
  | zero =>
    intro k fuel r hk hf hr
    obtain ⟨f, rfl⟩ := fuel_s hf
    obtain rfl : k = n := by omega
    have h0' : (vLR v r).1 (1 + 1) 1 = nI k := h0
    have hle : nI k ≤ nI k := nI_le (by omega) (by omega)
    obtain ⟨q1, q2⟩ := L_sumT v r hc hy (c + 1) 0 5000 0 (by omega) (by omega)
    rw [p_X5_countByTable_17, f_X5_countByTable_17, h0', if_pos hle]
    refine ⟨⟨fun _ => q1, fun h => absurd hle h⟩, r, q2.trans ?_⟩
    rw [lp_sL, sL_congr fun i hi => hr i (by omega)]
  | succ m ih =>
    intro k fuel r hk hf hr
    obtain ⟨f, rfl⟩ := fuel_s hf
    have h0' : (vLR v r).1 (1 + 1) 1 = nI n := h0
    have hle : ¬ nI n ≤ nI k := nI_ge (by omega) (by omega)
    have hcl : (nI k).toNatClampNeg = k := cl_n (by omega)
    have hv : vp_in (nI k) 8 := vi_n (by omega) (by omega)
    have bp' : BRp (vLR v r) 1 w n := bp
    have hA := F_act hn bp' (k := k) (by omega)
    have hAp := P_X5_isActiveAt (vLR v r) (w 6) (k := k) (by omega)
    rw [p_X5_countByTable_17, f_X5_countByTable_17, h0', if_neg hle]
    simp only [f_X5_countByTable_50, p_X5_countByTable_50, nI_1, hcl]
    cases hac : act w k with
    | false =>
      rw [hac, if_neg Bool.false_ne_true] at hA
      have hA' : f_X5_isActiveAt 1 (nI k) (w 6) (vLR v r) = 0 := hA
      obtain ⟨q1, r', q2⟩ := ih (k + 1) f r (by omega) (by omega) fun i hi => by
        rw [hr i hi]
        show _ = if act w k = true then _ else _
        rw [hac, if_neg Bool.false_ne_true]
      rw [if_pos hA']
      exact ⟨⟨fun h => absurd h hle, fun _ => ⟨hAp, fun _ => q1, fun h => absurd hA' h⟩⟩, r', q2⟩
    | true =>
      rw [hac, if_pos rfl] at hA
      have hA' : ¬ f_X5_isActiveAt 1 (nI k) (w 6) (vLR v r) = 0 := by rw [hA]; exact n10
      obtain ⟨e1, e2, e3⟩ := wS_eq wp (k := k) (by omega)
      have hs1 : (vLR v r).1 (1 + 3) k = nI (wS w k) := (bp k (by omega)).2.1.trans e1
      have hs2 : (vLR v r).1 (1 + 4) k = w (8 + 8 * k + 2) := (bp k (by omega)).2.2.1
      obtain ⟨a1, r1, a2, a3, a4⟩ := L_addBoat v (s := wS w k) (w (8 + 8 * k + 2)) e3 241 5000 r (by omega) (by omega)
      have e240 : nI 241 + (-1 : Int32) = 240 := by decide +kernel
      rw [e240] at a1 a2
      obtain ⟨q1, r', q2⟩ := ih (k + 1) f r1 (by omega) (by omega) fun i hi => by
        rw [a3 i hi]
        show _ = if act w k = true then _ else _
        rw [hac, if_pos rfl, hr i hi]
        by_cases his : i < wS w k
        · rw [if_pos his, if_pos his]
          rfl
        · rw [if_neg his, if_neg his, hr (i - wS w k) (by omega)]
          rfl
      have b1 : p_X5_addBoat 1 (nI (wS w k)) (w (8 + 8 * k + 2)) (vLR v r) := a1
      have b2 : f_X5_addBoat 1 (nI (wS w k)) (w (8 + 8 * k + 2)) (vLR v r) = vLR v r1 := a2
      rw [if_neg hA', hs1, hs2, b2]
      exact ⟨⟨fun h => absurd h hle, fun _ => ⟨hAp, fun h => absurd h hA', fun _ => ⟨hv, hv, b1, q1⟩⟩⟩, r', q2⟩
theorem K_byTable {B : Nat} {v : gV} {w : Nat → Int32} {n M : Nat} {y : Int32} (h0 : v.1 2 1 = nI n) (hn : n ≤ 8) (wp : WFp B w n) (bp : BRp v 1 w n) (hy0 : 0 ≤ y.toInt) (hy : y.toInt + 1 = (M : Int)) : p_X5_countByTable 1 y (w 6) v ∧ ∃ r', f_X5_countByTable 1 y (w 6) v = (out w n M, vLR v r') := by
  obtain ⟨f1, r0, f2, f3, -⟩ := L_fillL v 241 0 5000 (v.2.1 10) (by omega) (by omega)
  rw [vLR_self] at f1 f2
  have g1 : p_J7_fill_d0a16 (1 + 9) 241 (0 : Int64) v := f1
  have g2 : f_J7_fill_d0a16 (1 + 9) 241 (0 : Int64) v = vLR v r0 := f2
  have hz : (0 : Int32).toNatClampNeg = 0 := rfl
  have hT : ∀ i, i < 241 → vp_updL r0 0 1 i = TN (act w) (wS w) (wP0 w) (wQ0 w) 0 i := fun i hi => by
    show _ = if i = 0 then 1 else 0
    by_cases e : i = 0
    · subst e
      rw [updL_eq, if_pos rfl]
    · rw [updL_ne e, if_neg e, f3 i (by omega) hi]
  have hc : ∃ c, c < 241 ∧ (if (240 : Int32) < y then (240 : Int32) else y) = nI c ∧ out w n (c + 1) = out w n M := by
    have t240 : (240 : Int32).toInt = 240 := by decide +kernel
    by_cases h : (240 : Int32) < y
    · refine ⟨240, by omega, if_pos h, ?_⟩
      rw [i_lt, t240] at h
      exact (out_240 wp hn (by omega)).symm
    · rw [if_neg h]
      rw [i_lt, t240] at h
      have eM : y.toInt.toNat + 1 = M := by omega
      refine ⟨y.toInt.toNat, by omega, i_nn hy0, ?_⟩
      rw [eM]
  obtain ⟨c, c1, c2, c3⟩ := hc
  obtain ⟨q1, r', q2⟩ := L_byTable h0 hn wp bp c1 c2 n 0 5000 (vp_updL r0 0 1) (by omega) (by omega) hT
  refine ⟨?_, r', ?_⟩
  · simp only [p_X5_countByTable, p_X5_countByTable_0, p_X5_countByTable_8, p_X5_countByTable_15, g1, g2, hz, true_and]
    rw [show 1 + 9 = 10 from rfl, vL_LR]
    exact q1
  · simp only [f_X5_countByTable, f_X5_countByTable_0, f_X5_countByTable_8, f_X5_countByTable_15, g2, hz]
    rw [show 1 + 9 = 10 from rfl, vL_LR, ← c3]
    refine q2.trans ?_
    rw [tab_sets _ _ _ _ n hn]
    rfl
theorem K_X12_within {B : Nat} (y : Int32) (u : gV) {w : Nat → Int32} (hw : u.1 560 = w) {n : Nat} (h0 : w 0 = nI n) (hn : n ≤ 8) (wp : WFp B w n) : p_X12_within y u ∧ (y < 0 → f_X12_within y u = (0, thr u (nI 1))) ∧ (0 ≤ y → f_X12_within y u = (out w n (y.toInt.toNat + 1), thr u (nI 0))) := by
  have z0 : (0 : Int32).toInt = 0 := rfl
  by_cases hy : (0 : Int32) ≤ y
  · have hy2 : 0 ≤ y.toInt := by
      rw [i_le, z0] at hy
      exact hy
    have hpow := pow8 n (by omega)
    obtain ⟨q1, q2⟩ := L_X12_within (thr u (nI 0)) (w := w) (by rw [thr_560]; exact hw) (M := y.toInt.toNat + 1) (y := y) h0 hn wp (by omega) (2 ^ n) 0 5000 0 (by omega) (by omega)
    rw [stp_out] at q2
    have ht : (thr u (nI 0)).1 559 6 = nI 0 := thr_6 u _
    have hs : ∀ x : Int32, vM u 559 6 x = thr u x := fun _ => rfl
    have h0n : (0 : Int32) = nI 0 := rfl
    have hle : (thr u (nI 0)).1 559 6 ≤ 0 := by rw [ht]; exact le00
    have hlt : ¬ y < 0 := by rw [i_lt, z0]; omega
    refine ⟨?_, fun h => absurd h hlt, fun _ => ?_⟩
    · show (((0 : Int32) ≤ y) → p_X12_within_10 y (0 : Int32) u) ∧ (¬ ((0 : Int32) ≤ y) → p_X12_within_10 y (1 : Int32) u)
      exact ⟨fun _ => And.intro (fun _ => q1) fun h => absurd hle h, fun h => absurd hy h⟩
    · show (if (0 : Int32) ≤ y then f_X12_within_10 y (0 : Int32) u else f_X12_within_10 y (1 : Int32) u) = _
      rw [if_pos hy]
      show (if (thr u (nI 0)).1 559 6 ≤ 0 then f_X12_within_27 5000 y (0 : Int64) (0 : Int32) (thr u (nI 0)) else ((0 : Int64), thr u (nI 0))) = _
      rw [if_pos hle]
      exact q2
  · have hlt : y < 0 := by
      rw [i_le, z0] at hy
      rw [i_lt, z0]
      omega
    have ht : (thr u (nI 1)).1 559 6 = nI 1 := thr_6 u _
    have hle : ¬ (thr u (nI 1)).1 559 6 ≤ 0 := by rw [ht]; exact le10
    refine ⟨?_, fun _ => ?_, fun h => absurd h hy⟩
    · show (((0 : Int32) ≤ y) → p_X12_within_10 y (0 : Int32) u) ∧ (¬ ((0 : Int32) ≤ y) → p_X12_within_10 y (1 : Int32) u)
      exact ⟨fun h => absurd h hy, fun _ => And.intro (fun h => absurd h hle) fun _ => trivial⟩
    · show (if (0 : Int32) ≤ y then f_X12_within_10 y (0 : Int32) u else f_X12_within_10 y (1 : Int32) u) = _
      rw [if_neg hy]
      show (if (thr u (nI 1)).1 559 6 ≤ 0 then f_X12_within_27 5000 y (0 : Int64) (0 : Int32) (thr u (nI 1)) else ((0 : Int64), thr u (nI 1))) = _
      rw [if_neg hle]
theorem inb_max (y : Int32) : inb y (nI 0) (nI 2147483647) = true ↔ (0 : Int32) ≤ y := by
  have z0 : (0 : Int32).toInt = 0 := rfl
  have h := ti_hi y
  rw [inb_t, i_le, z0, tI (by omega), tI (by omega)]
  omega
theorem R_outcomesWithin (y : Int32) {B : Nat} : Rd (f_X11_outcomesWithin y) (p_X11_outcomesWithin y) (f_X12_outcomesWithin y) (p_X12_outcomesWithin y) eA oy1 (any Int64) B := by
  intro v np nc nt no h
  have hw := h.1
  have n5 := hw.2.2.2.2.1
  have wp := h.2.2.1
  have bp := h.2.2.2.2.2.2.2.2.1
  have s1 : v.1 2 1 = nI np := h.2.2.2.2.2.2.2.1.1
  have s7 : v.1 1 5 = v.1 560 6 := h.2.2.2.2.2.2.2.1.2.2.2.2.2.2.1
  have z0 : (0 : Int32).toInt = 0 := rfl
  have hF := F_X11_checkedNumber y (nI 0) (nI 2147483647) v
  have hP := P_X11_checkedNumber y (nI 0) (nI 2147483647) v
  have hm : ∀ u : gV, u.1 560 = v.1 560 → _ := fun u hu => K_X12_within y u hu hw.1 n5 wp
  have hmP : ∀ u : gV, u.1 560 = v.1 560 → p_X12_outcomesWithin y u := fun u hu => And.intro (hm u hu).1 trivial
  have hmF : ∀ u : gV, f_X12_outcomesWithin y u = f_X12_within y u := fun u => rfl
  by_cases hy : (0 : Int32) ≤ y
  · have hx := (inb_max y).mpr hy
    have hF : f_X11_checkedNumber y (nI 0) (nI 2147483647) v = Sum.inl y := by rw [hF, hx]; rfl
    have hy2 : 0 ≤ y.toInt := by
      rw [i_le, z0] at hy
      exact hy
    obtain ⟨k1, r', k2⟩ := K_byTable s1 n5 wp bp (M := y.toInt.toNat + 1) hy2 (by omega)
    have hf : f_X11_outcomesWithin y v = (Sum.inl (out (v.1 560) np (y.toInt.toNat + 1)), vLR v r') := by simp only [f_X11_outcomesWithin_24, f_X11_outcomesWithin_14, f_X11_outcomesWithin_0, f_X11_outcomesWithin, li_0, li_2147483647, hF, el_l, s7, k2]
    rw [hf]
    refine ⟨?_, Sc.one rfl, nI 0, fun h => absurd rfl h, fun _ => ⟨_, trivial, rfl, fun u hu => ⟨hmP u hu, ?_⟩⟩⟩
    · simp only [p_X11_outcomesWithin_24, p_X11_outcomesWithin_14, p_X11_outcomesWithin_0, p_X11_outcomesWithin, li_0, li_2147483647, hP, hF, s7, k1, Sum.inl.injEq, forall_eq', and_self]
    · rw [hmF, (hm u hu).2.2 hy]
      exact ⟨rfl, thr_Th u _⟩
  · have hx : inb y (nI 0) (nI 2147483647) = false := by
      rw [Bool.eq_false_iff]
      exact fun h => hy ((inb_max y).mp h)
    have hlt : y < 0 := by
      rw [i_le, z0] at hy
      rw [i_lt, z0]
      omega
    have hF : f_X11_checkedNumber y (nI 0) (nI 2147483647) v = Sum.inr "java/lang/IllegalArgumentException" := by rw [hF, hx]; rfl
    have hf : f_X11_outcomesWithin y v = (Sum.inr "java/lang/IllegalArgumentException", v) := by simp only [f_X11_outcomesWithin_24, f_X11_outcomesWithin_14, f_X11_outcomesWithin_0, f_X11_outcomesWithin, li_0, li_2147483647, hF, el_r]
    rw [hf]
    refine ⟨?_, Sc.refl v, nI 1, fun _ => ⟨rfl, rfl, fun u hu => ⟨hmP u hu, ?_⟩⟩, fun h => absurd h n10⟩
    · simp only [p_X11_outcomesWithin_24, p_X11_outcomesWithin_14, p_X11_outcomesWithin_0, p_X11_outcomesWithin, li_0, li_2147483647, hP, hF, reduceCtorEq, false_implies, implies_true, and_self]
    · rw [hmF, (hm u hu).2.1 hlt]
      exact thr_Th u _
theorem R_outcomesWithinBySets (y : Int32) {B : Nat} : Rd (fun v => (f_X11_outcomesWithinBySets y v, v)) (p_X11_outcomesWithinBySets y) (f_X12_outcomesWithinBySets y) (p_X12_outcomesWithinBySets y) eA oy1 (any Int64) B := by
  intro v np nc nt no h
  have hw := h.1
  have n5 := hw.2.2.2.2.1
  have wp := h.2.2.1
  have bp := h.2.2.2.2.2.2.2.2.1
  have s1 : v.1 2 1 = nI np := h.2.2.2.2.2.2.2.1.1
  have s7 : v.1 1 5 = v.1 560 6 := h.2.2.2.2.2.2.2.1.2.2.2.2.2.2.1
  have z0 : (0 : Int32).toInt = 0 := rfl
  have hF := F_X11_checkedNumber y (nI 0) (nI 2147483647) v
  have hP := P_X11_checkedNumber y (nI 0) (nI 2147483647) v
  have hm : ∀ u : gV, u.1 560 = v.1 560 → _ := fun u hu => K_X12_within y u hu hw.1 n5 wp
  have hmP : ∀ u : gV, u.1 560 = v.1 560 → p_X12_outcomesWithinBySets y u := fun u hu => And.intro (hm u hu).1 trivial
  have hmF : ∀ u : gV, f_X12_outcomesWithinBySets y u = f_X12_within y u := fun u => rfl
  by_cases hy : (0 : Int32) ≤ y
  · have hx := (inb_max y).mpr hy
    have hF : f_X11_checkedNumber y (nI 0) (nI 2147483647) v = Sum.inl y := by rw [hF, hx]; rfl
    have hy2 : 0 ≤ y.toInt := by
      rw [i_le, z0] at hy
      exact hy
    obtain ⟨k1, k2⟩ := K_X5_bySets s1 n5 wp bp (M := y.toInt.toNat + 1) (y := y) (by omega)
    have hf : f_X11_outcomesWithinBySets y v = Sum.inl (out (v.1 560) np (y.toInt.toNat + 1)) := by simp only [f_X11_outcomesWithinBySets_14, f_X11_outcomesWithinBySets_0, f_X11_outcomesWithinBySets, li_0, li_2147483647, hF, el_l, s7, k2]
    refine ⟨?_, Sc.refl v, nI 0, fun h => absurd rfl h, fun _ => ⟨_, trivial, hf, fun u hu => ⟨hmP u hu, ?_⟩⟩⟩
    · simp only [p_X11_outcomesWithinBySets_14, p_X11_outcomesWithinBySets_0, p_X11_outcomesWithinBySets, li_0, li_2147483647, hP, hF, s7, k1, Sum.inl.injEq, forall_eq', and_self]
    · rw [hmF, (hm u hu).2.2 hy]
      exact ⟨rfl, thr_Th u _⟩
  · have hx : inb y (nI 0) (nI 2147483647) = false := by
      rw [Bool.eq_false_iff]
      exact fun h => hy ((inb_max y).mp h)
    have hlt : y < 0 := by
      rw [i_le, z0] at hy
      rw [i_lt, z0]
      omega
    have hF : f_X11_checkedNumber y (nI 0) (nI 2147483647) v = Sum.inr "java/lang/IllegalArgumentException" := by rw [hF, hx]; rfl
    have hf : f_X11_outcomesWithinBySets y v = Sum.inr "java/lang/IllegalArgumentException" := by simp only [f_X11_outcomesWithinBySets_14, f_X11_outcomesWithinBySets_0, f_X11_outcomesWithinBySets, li_0, li_2147483647, hF, el_r]
    refine ⟨?_, Sc.refl v, nI 1, fun _ => ⟨rfl, hf, fun u hu => ⟨hmP u hu, ?_⟩⟩, fun h => absurd h n10⟩
    · simp only [p_X11_outcomesWithinBySets_14, p_X11_outcomesWithinBySets_0, p_X11_outcomesWithinBySets, li_0, li_2147483647, hP, hF, reduceCtorEq, false_implies, implies_true, and_self]
    · rw [hmF, (hm u hu).2.1 hlt]
      exact thr_Th u _
/-! outcomes and the greatest loss -/
def oStep (w : Nat → Int32) (k : Nat) (a : Int64) : Int64 := if act w k = true then a * 8 else a
theorem L_X5_outcomes {v : gV} {w : Nat → Int32} {n : Nat} (h0 : v.1 2 1 = nI n) (hn : n ≤ 8) (bp : BRp v 1 w n) : ∀ (m k fuel : Nat) (a : Int64), k + m = n → m < fuel → p_X5_countOutcomes_5 1 fuel (w 6) a (nI k) v ∧ f_X5_countOutcomes_5 1 fuel (w 6) a (nI k) v = lp (oStep w) m k a := by
  intro m
  induction m with
  | zero =>
    intro k fuel a hk hf
    obtain ⟨f, rfl⟩ := fuel_s hf
    have hle : nI n ≤ nI k := nI_le (by omega) (by omega)
    have h0' : v.1 (1 + 1) 1 = nI n := h0
    rw [p_X5_countOutcomes_5, f_X5_countOutcomes_5, h0', if_pos hle]
    exact ⟨⟨fun _ => trivial, fun h => absurd hle h⟩, rfl⟩
  | succ m ih =>
    intro k fuel a hk hf
    obtain ⟨f, rfl⟩ := fuel_s hf
    have hle : ¬ nI n ≤ nI k := nI_ge (by omega) (by omega)
    have h0' : v.1 (1 + 1) 1 = nI n := h0
    have hA := F_act hn bp (k := k) (by omega)
    have hAp := P_X5_isActiveAt v (w 6) (k := k) (by omega)
    have hi := ih (k + 1) f (oStep w k a) (by omega) (by omega)
    rw [p_X5_countOutcomes_5, f_X5_countOutcomes_5, h0', if_neg hle, lp_s]
    simp only [f_X5_countOutcomes_30, p_X5_countOutcomes_30, nI_1]
    unfold oStep at hi ⊢
    cases hac : act w k with
    | false =>
      rw [hac, if_neg Bool.false_ne_true] at hA hi
      have hA' : f_X5_isActiveAt 1 (nI k) (w 6) v = 0 := hA
      rw [if_pos hA', if_neg Bool.false_ne_true]
      exact ⟨⟨fun h => absurd h hle, fun _ => ⟨hAp, fun _ => hi.1, fun h => absurd hA' h⟩⟩, hi.2⟩
    | true =>
      rw [hac, if_pos rfl] at hA hi
      have hA' : ¬ f_X5_isActiveAt 1 (nI k) (w 6) v = 0 := by rw [hA]; exact n10
      rw [if_neg hA', if_pos rfl]
      exact ⟨⟨fun h => absurd h hle, fun _ => ⟨hAp, fun h => absurd h hA', fun _ => hi.1⟩⟩, hi.2⟩
theorem L_X12_outcomes {u : gV} {w : Nat → Int32} {n : Nat} (hw : u.1 560 = w) (h0 : w 0 = nI n) (hn : n ≤ 8) : ∀ (m k fuel : Nat) (a : Int64), k + m = n → m < fuel → p_X12_outcomes_9 fuel a (nI k) u ∧ f_X12_outcomes_9 fuel a (nI k) u = (lp (oStep w) m k a, u) := by
  intro m
  induction m with
  | zero =>
    intro k fuel a hk hf
    obtain ⟨f, rfl⟩ := fuel_s hf
    have hle : nI n ≤ nI k := nI_le (by omega) (by omega)
    have h0' : u.1 560 (0 : Int32).toNatClampNeg = nI n := by rw [hw]; exact h0
    rw [p_X12_outcomes_9, f_X12_outcomes_9, h0', if_pos hle]
    exact ⟨⟨fun _ => trivial, fun h => absurd hle h⟩, rfl⟩
  | succ m ih =>
    intro k fuel a hk hf
    obtain ⟨f, rfl⟩ := fuel_s hf
    have hle : ¬ nI n ≤ nI k := nI_ge (by omega) (by omega)
    have h0' : u.1 560 (0 : Int32).toNatClampNeg = nI n := by rw [hw]; exact h0
    have hA := F_X12_isActiveAt u (k := k) (by omega)
    have hAp := P_X12_isActiveAt u (k := k) (by omega)
    rw [hw] at hA
    have hi := ih (k + 1) f (oStep w k a) (by omega) (by omega)
    rw [p_X12_outcomes_9, f_X12_outcomes_9, h0', if_neg hle, lp_s]
    simp only [f_X12_outcomes_35, p_X12_outcomes_35, nI_1]
    unfold oStep at hi ⊢
    cases hac : act w k with
    | false =>
      rw [hac, if_neg Bool.false_ne_true] at hA hi
      have hA' : f_X12_isActiveAt (nI k) u = 0 := hA
      rw [if_pos hA', if_neg Bool.false_ne_true, Int64.mul_one]
      exact ⟨⟨fun h => absurd h hle, fun _ => ⟨hAp, fun _ => hi.1, fun h => absurd hA' h⟩⟩, hi.2⟩
    | true =>
      rw [hac, if_pos rfl] at hA hi
      have hA' : ¬ f_X12_isActiveAt (nI k) u = 0 := by rw [hA]; exact n10
      rw [if_neg hA', if_pos rfl]
      exact ⟨⟨fun h => absurd h hle, fun _ => ⟨hAp, fun h => absurd h hA', fun _ => hi.1⟩⟩, hi.2⟩
theorem R_outcomes {B : Nat} : Pl f_X11_outcomes p_X11_outcomes f_X12_outcomes p_X12_outcomes B := by
  intro v np nc nt no h
  have hw := h.1
  have n5 := hw.2.2.2.2.1
  have bp := h.2.2.2.2.2.2.2.2.1
  have s1 : v.1 2 1 = nI np := h.2.2.2.2.2.2.2.1.1
  have s7 : v.1 1 5 = v.1 560 6 := h.2.2.2.2.2.2.2.1.2.2.2.2.2.2.1
  obtain ⟨a1, a2⟩ := L_X5_outcomes s1 n5 bp np 0 5000 1 (by omega) (by omega)
  obtain ⟨b1, b2⟩ := L_X12_outcomes (u := thr v (nI 0)) (w := v.1 560) (thr_560 v _) hw.1 n5 np 0 5000 1 (by omega) (by omega)
  rw [← s7] at a1 a2
  have c1 : p_X5_countOutcomes 1 (v.1 1 5) v := a1
  have c2 : f_X11_outcomes v = lp (oStep (v.1 560)) np 0 1 := a2
  refine ⟨And.intro c1 trivial, b1, ?_⟩
  rw [c2]
  exact b2
def gStep (w : Nat → Int32) (k : Nat) (a : Int32) : Int32 := if act w k = true then (if w (8 + 8 * k + 2) ≤ 0 then a else a + w (8 + 8 * k + 1)) else a
theorem L_X5_most {v : gV} {w : Nat → Int32} {n : Nat} (h0 : v.1 2 1 = nI n) (hn : n ≤ 8) (bp : BRp v 1 w n) : ∀ (m k fuel : Nat) (a : Int32), k + m = n → m < fuel → p_X5_mostLoss_4 1 fuel (w 6) a (nI k) v ∧ f_X5_mostLoss_4 1 fuel (w 6) a (nI k) v = lp (gStep w) m k a := by
  intro m
  induction m with
  | zero =>
    intro k fuel a hk hf
    obtain ⟨f, rfl⟩ := fuel_s hf
    have hle : nI n ≤ nI k := nI_le (by omega) (by omega)
    have h0' : v.1 (1 + 1) 1 = nI n := h0
    rw [p_X5_mostLoss_4, f_X5_mostLoss_4, h0', if_pos hle]
    exact ⟨⟨fun _ => trivial, fun h => absurd hle h⟩, rfl⟩
  | succ m ih =>
    intro k fuel a hk hf
    obtain ⟨f, rfl⟩ := fuel_s hf
    have hle : ¬ nI n ≤ nI k := nI_ge (by omega) (by omega)
    have h0' : v.1 (1 + 1) 1 = nI n := h0
    have hA := F_act hn bp (k := k) (by omega)
    have hAp := P_X5_isActiveAt v (w 6) (k := k) (by omega)
    have hcl : (nI k).toNatClampNeg = k := cl_n (by omega)
    have hv : vp_in (nI k) 8 := vi_n (by omega) (by omega)
    have e1 : v.1 (1 + 4) k = w (8 + 8 * k + 2) := (bp k (by omega)).2.2.1
    have e2 : v.1 (1 + 3) k = w (8 + 8 * k + 1) := (bp k (by omega)).2.1
    have hi := ih (k + 1) f (gStep w k a) (by omega) (by omega)
    rw [p_X5_mostLoss_4, f_X5_mostLoss_4, h0', if_neg hle, lp_s]
    simp only [f_X5_mostLoss_39, p_X5_mostLoss_39, nI_1, hcl, e1, e2]
    unfold gStep at hi ⊢
    cases hac : act w k with
    | false =>
      rw [hac, if_neg Bool.false_ne_true] at hA hi
      have hA' : f_X5_isActiveAt 1 (nI k) (w 6) v = 0 := hA
      rw [if_pos hA', if_neg Bool.false_ne_true]
      exact ⟨⟨fun h => absurd h hle, fun _ => ⟨hAp, fun _ => hi.1, fun h => absurd hA' h⟩⟩, hi.2⟩
    | true =>
      rw [hac, if_pos rfl] at hA hi
      have hA' : ¬ f_X5_isActiveAt 1 (nI k) (w 6) v = 0 := by rw [hA]; exact n10
      rw [if_neg hA', if_pos rfl]
      by_cases hr : w (8 + 8 * k + 2) ≤ 0
      · rw [if_pos hr] at hi ⊢
        rw [if_pos hr]
        exact ⟨⟨fun h => absurd h hle, fun _ => ⟨hAp, fun h => absurd h hA', fun _ => ⟨hv, fun _ => hi.1, fun h => absurd hr h⟩⟩⟩, hi.2⟩
      · rw [if_neg hr] at hi ⊢
        rw [if_neg hr]
        exact ⟨⟨fun h => absurd h hle, fun _ => ⟨hAp, fun h => absurd h hA', fun _ => ⟨hv, fun h => absurd h hr, fun _ => ⟨hv, hi.1⟩⟩⟩⟩, hi.2⟩
theorem L_X12_most {u : gV} {w : Nat → Int32} {n : Nat} (hw : u.1 560 = w) (h0 : w 0 = nI n) (hn : n ≤ 8) : ∀ (m k fuel : Nat) (a : Int32), k + m = n → m < fuel → p_X12_greatestLoss_9 fuel a (nI k) u ∧ f_X12_greatestLoss_9 fuel a (nI k) u = (lp (gStep w) m k a, u) := by
  intro m
  induction m with
  | zero =>
    intro k fuel a hk hf
    obtain ⟨f, rfl⟩ := fuel_s hf
    have hle : nI n ≤ nI k := nI_le (by omega) (by omega)
    have h0' : u.1 560 (0 : Int32).toNatClampNeg = nI n := by rw [hw]; exact h0
    rw [p_X12_greatestLoss_9, f_X12_greatestLoss_9, h0', if_pos hle]
    exact ⟨⟨fun _ => trivial, fun h => absurd hle h⟩, rfl⟩
  | succ m ih =>
    intro k fuel a hk hf
    obtain ⟨f, rfl⟩ := fuel_s hf
    have hle : ¬ nI n ≤ nI k := nI_ge (by omega) (by omega)
    have h0' : u.1 560 (0 : Int32).toNatClampNeg = nI n := by rw [hw]; exact h0
    have hA := F_X12_isActiveAt u (k := k) (by omega)
    have hAp := P_X12_isActiveAt u (k := k) (by omega)
    rw [hw] at hA
    have p1 : p_X12_p (nI k) (1 : Int32) u := P_X12_p u (k := k) (o := 1) (by omega)
    have p2 : p_X12_p (nI k) (2 : Int32) u := P_X12_p u (k := k) (o := 2) (by omega)
    have e1 : f_X12_p (nI k) (2 : Int32) u = w (8 + 8 * k + 2) := by
      rw [← hw]
      exact F_X12_p u (k := k) (o := 2) (by omega)
    have e2 : f_X12_p (nI k) (1 : Int32) u = w (8 + 8 * k + 1) := by
      rw [← hw]
      exact F_X12_p u (k := k) (o := 1) (by omega)
    have hi := ih (k + 1) f (gStep w k a) (by omega) (by omega)
    rw [p_X12_greatestLoss_9, f_X12_greatestLoss_9, h0', if_neg hle, lp_s]
    simp only [f_X12_greatestLoss_46, p_X12_greatestLoss_46, f_X12_greatestLoss_47, p_X12_greatestLoss_47, nI_1, e1, e2, Int32.add_zero]
    unfold gStep at hi ⊢
    cases hac : act w k with
    | false =>
      rw [hac, if_neg Bool.false_ne_true] at hA hi
      have hA' : f_X12_isActiveAt (nI k) u = 0 := hA
      rw [if_pos hA', if_neg Bool.false_ne_true]
      exact ⟨⟨fun h => absurd h hle, fun _ => ⟨hAp, fun _ => hi.1, fun h => absurd hA' h⟩⟩, hi.2⟩
    | true =>
      rw [hac, if_pos rfl] at hA hi
      have hA' : ¬ f_X12_isActiveAt (nI k) u = 0 := by rw [hA]; exact n10
      rw [if_neg hA', if_pos rfl]
      by_cases hr : w (8 + 8 * k + 2) ≤ 0
      · rw [if_pos hr] at hi ⊢
        rw [if_pos hr]
        exact ⟨⟨fun h => absurd h hle, fun _ => ⟨hAp, fun h => absurd h hA', fun _ => ⟨p2, fun _ => hi.1, fun h => absurd hr h⟩⟩⟩, hi.2⟩
      · rw [if_neg hr] at hi ⊢
        rw [if_neg hr]
        exact ⟨⟨fun h => absurd h hle, fun _ => ⟨hAp, fun h => absurd h hA', fun _ => ⟨p2, fun h => absurd h hr, fun _ => ⟨p1, hi.1⟩⟩⟩⟩, hi.2⟩
def most (w : Nat → Int32) (n : Nat) : Int32 := lp (gStep w) n 0 (nI 0)
theorem K_most {v : gV} {w : Nat → Int32} {n : Nat} (h0 : v.1 2 1 = nI n) (hn : n ≤ 8) (bp : BRp v 1 w n) : p_X5_mostLoss 1 (w 6) v ∧ f_X5_mostLoss 1 (w 6) v = most w n := L_X5_most h0 hn bp n 0 5000 (nI 0) (by omega) (by omega)
theorem R_greatestLoss {B : Nat} : Pl f_X11_greatestLoss p_X11_greatestLoss f_X12_greatestLoss p_X12_greatestLoss B := by
  intro v np nc nt no h
  have hw := h.1
  have n5 := hw.2.2.2.2.1
  have bp := h.2.2.2.2.2.2.2.2.1
  have s1 : v.1 2 1 = nI np := h.2.2.2.2.2.2.2.1.1
  have s7 : v.1 1 5 = v.1 560 6 := h.2.2.2.2.2.2.2.1.2.2.2.2.2.2.1
  obtain ⟨a1, a2⟩ := K_most s1 n5 bp
  obtain ⟨b1, b2⟩ := L_X12_most (u := thr v (nI 0)) (w := v.1 560) (thr_560 v _) hw.1 n5 np 0 5000 (nI 0) (by omega) (by omega)
  rw [← s7] at a1 a2
  have c2 : f_X11_greatestLoss v = most (v.1 560) np := a2
  refine ⟨And.intro a1 trivial, b1, ?_⟩
  rw [c2]
  exact b2
/-- the greatest loss, as a number -/
theorem most_b {B : Nat} {w : Nat → Int32} {np : Nat} (wp : WFp B w np) (h8 : np ≤ 8) : ∀ n : Nat, n ≤ np → 0 ≤ (most w n).toInt ∧ (most w n).toInt ≤ 30 * n := by
  intro n
  induction n with
  | zero =>
    intro _
    have e : most w 0 = nI 0 := rfl
    rw [e]
    exact ⟨by decide +kernel, by decide +kernel⟩
  | succ n ih =>
    intro hn
    obtain ⟨h1, h2⟩ := ih (by omega)
    have h3 := wp.1 n (by omega)
    unfold WFp1 at h3
    have e : most w (n + 1) = gStep w n (most w n) := by
      unfold most
      rw [lp_last, Nat.zero_add]
    rw [e]
    unfold gStep
    split
    · split
      · exact ⟨h1, by omega⟩
      · rw [ti_add (by omega) (by omega)]
        exact ⟨by omega, by omega⟩
    · exact ⟨h1, by omega⟩
