/-! the script's form: a command on the reference's side -/
/-- the reference's text: its end, where it stands, whether it was refused, how many commands -/
def TM (T : Nat → Int32) (n c : Nat) (u : gV) : Prop := n ≤ 60 ∧ c ≤ 10 ∧ u.1 559 17 = nI n ∧ u.1 559 19 = nI c ∧ (∀ i, i < n → u.1 567 i = T i) ∧ ∀ i, i < n → 32 ≤ (T i).toInt ∧ (T i).toInt ≤ 126
def mS (u : gV) (p e : Nat) (A : Nat → Int32) : gV := vRow (vRow u 559 (upd (upd (u.1 559) 18 (nI p)) 20 (nI e))) 569 A
theorem mS_559 (u : gV) (p e : Nat) (A : Nat → Int32) : (mS u p e A).1 559 = upd (upd (u.1 559) 18 (nI p)) 20 (nI e) := by
  unfold mS
  rw [vRow_ne _ _ (by omega), vRow_eq]
theorem mS_18 (u : gV) (p e : Nat) (A : Nat → Int32) : (mS u p e A).1 559 18 = nI p := by rw [mS_559, upd_ne (by omega), upd_eq]
theorem mS_20 (u : gV) (p e : Nat) (A : Nat → Int32) : (mS u p e A).1 559 20 = nI e := by rw [mS_559, upd_eq]
theorem mS_k (u : gV) (p e : Nat) (A : Nat → Int32) {k : Nat} (h1 : ¬ k = 18) (h2 : ¬ k = 20) : (mS u p e A).1 559 k = u.1 559 k := by rw [mS_559, upd_ne h2, upd_ne h1]
theorem mS_o (u : gV) (p e : Nat) (A : Nat → Int32) {j : Nat} (h1 : ¬ j = 559) (h2 : ¬ j = 569) : (mS u p e A).1 j = u.1 j := by
  unfold mS
  rw [vRow_ne _ _ h2, vRow_ne _ _ h1]
theorem mS_569 (u : gV) (p e : Nat) (A : Nat → Int32) : (mS u p e A).1 569 = A := vRow_eq _ _ _
theorem mS_p (u : gV) (p p' e : Nat) (A : Nat → Int32) : vM (mS u p e A) 559 18 (nI p') = mS u p' e A := by
  have h : upd (upd (upd (u.1 559) 18 (nI p)) 20 (nI e)) 18 (nI p') = upd (upd (u.1 559) 18 (nI p')) 20 (nI e) := by
    funext k
    simp only [upd_at]
    by_cases h1 : k = 18
    · subst h1
      rfl
    · by_cases h2 : k = 20
      · subst h2
        rfl
      · rw [if_neg h1, if_neg h2, if_neg h1, if_neg h2, if_neg h1]
  rw [vM_rw, mS_559, h]
  unfold mS
  rw [vRow_swap _ (show ¬ 569 = 559 by omega), vRow_row]
theorem mS_e (u : gV) (p e e' : Nat) (A : Nat → Int32) : vM (mS u p e A) 559 20 (nI e') = mS u p e' A := by
  rw [vM_rw, mS_559, upd_upd]
  unfold mS
  rw [vRow_swap _ (show ¬ 569 = 559 by omega), vRow_row]
theorem mS_A (u : gV) (p e k : Nat) (x : Int32) (A : Nat → Int32) : vM (mS u p e A) 569 k x = mS u p e (upd A k x) := by
  rw [vM_rw, mS_569]
  unfold mS
  rw [vRow_row]
theorem mS_self {u : gV} {p e : Nat} (h1 : u.1 559 18 = nI p) (h2 : u.1 559 20 = nI e) : mS u p e (u.1 569) = u := by
  unfold mS
  rw [← h1, upd_id, ← h2, upd_id, vRow_self, vRow_self]
theorem or00 : (nI 0 ||| (0 : Int32)) = nI 0 := by decide +kernel
theorem or01 : (nI 0 ||| (1 : Int32)) = nI 1 := by decide +kernel
theorem or10 : (nI 1 ||| (0 : Int32)) = nI 1 := by decide +kernel
theorem or11 : (nI 1 ||| (1 : Int32)) = nI 1 := by decide +kernel
theorem nIor : (nI 0 = 0 ∨ nI 0 = 1) ∧ (nI 1 = 0 ∨ nI 1 = 1) := ⟨Or.inl rfl, Or.inr rfl⟩
/-- the mark at the place -/
def mk (T : Nat → Int32) (n p e : Nat) : Int32 := if e = 0 ∧ p < n then T p else (-1 : Int32)
theorem K_mark {T : Nat → Int32} {n c : Nat} {u : gV} (h : TM T n c u) (p e : Nat) (hp : p ≤ n) (he : e ≤ 1) (A : Nat → Int32) : p_X12_mark (mS u p e A) ∧ f_X12_mark (mS u p e A) = mk T n p e := by
  obtain ⟨h1, h2, h3, h4, h5, h6⟩ := h
  have e17 : (mS u p e A).1 559 17 = nI n := by rw [mS_k _ _ _ _ (by omega) (by omega)]; exact h3
  have h31 : ∀ (x : Int32) (w : gV), p_X12_mark_31 x w := fun x w => by rw [p_X12_mark_31]; trivial
  have h30 : p_X12_mark_30 (mS u p e A) := by rw [p_X12_mark_30]; exact h31 _ _
  unfold mk
  by_cases hp2 : p < n
  · have c1 : ¬ nI n ≤ nI p := by rw [le_n (by omega) (by omega)]; omega
    have e567 : (mS u p e A).1 567 p = T p := by rw [mS_o _ _ _ _ (by omega) (by omega)]; exact h5 p hp2
    constructor
    · show p_X12_mark_0 (mS u p e A)
      rw [p_X12_mark_0, mS_18, mS_20, e17]
      exact ⟨fun _ => ⟨fun g => absurd g c1, fun _ => ⟨vi_n (by omega) (by omega), h31 _ _⟩⟩, fun _ => h30⟩
    · show f_X12_mark_0 (mS u p e A) = _
      rw [f_X12_mark_0, mS_18, mS_20, e17, if_neg c1, cl_n (by omega), e567, f_X12_mark_31, f_X12_mark_30, f_X12_mark_31]
      by_cases he0 : e = 0
      · subst he0
        have g0 : nI 0 = 0 := rfl
        rw [if_pos g0, if_pos ⟨rfl, hp2⟩]
      · have : e = 1 := by omega
        subst this
        have g0 : ¬ nI 1 = 0 := n10
        rw [if_neg g0, if_neg (fun g => he0 g.1)]
  · have c1 : nI n ≤ nI p := by rw [le_n (by omega) (by omega)]; omega
    constructor
    · show p_X12_mark_0 (mS u p e A)
      rw [p_X12_mark_0, mS_18, mS_20, e17]
      exact ⟨fun _ => ⟨fun _ => h30, fun g => absurd c1 g⟩, fun _ => h30⟩
    · show f_X12_mark_0 (mS u p e A) = _
      rw [f_X12_mark_0, mS_18, mS_20, e17, if_pos c1, f_X12_mark_30, f_X12_mark_31, ite_self, if_neg (show ¬ (e = 0 ∧ p < n) from fun g => hp2 g.2)]
theorem m1_n {c : Nat} (hc : c < 128) : ¬ (-1 : Int32) = nI c := by
  intro h
  have h := congrArg Int32.toInt h
  rw [tI (by omega)] at h
  have e : (-1 : Int32).toInt = -1 := by decide +kernel
  omega
theorem m1_dig : inb (-1 : Int32) (nI 48) (nI 57) = false := by decide +kernel
theorem m1_isC : isC (-1 : Int32) = false := by decide +kernel
theorem K_expect {T : Nat → Int32} {n c : Nat} {u : gV} (h : TM T n c u) (p e : Nat) (hp : p ≤ n) (he : e ≤ 1) (A : Nat → Int32) (x : Nat) (hx : x < 128) : p_X12_expect (nI x) (mS u p e A) ∧ f_X12_expect (nI x) (mS u p e A) = if e = 0 then (rdL T n p x).elim (mS u p 1 A) (fun xq => mS u xq.2 0 A) else mS u p 1 A := by
  obtain ⟨k1, k2⟩ := K_mark h p e hp he A
  have h43 : ∀ w : gV, p_X12_expect_43 w := fun w => by rw [p_X12_expect_43]; trivial
  have h22 : ∀ w : gV, p_X12_expect_22 w := fun w => by
    rw [p_X12_expect_22]
    exact ⟨fun _ => by rw [p_X12_expect_39]; exact h43 _, fun _ => by rw [p_X12_expect_39]; exact h43 _⟩
  have f22 : ∀ e' : Nat, e' ≤ 1 → f_X12_expect_22 (mS u p e' A) = if e' = 0 then mS u (p + 1) 0 A else mS u p 1 A := fun e' he' => by
    rw [f_X12_expect_22, mS_20, mS_18, f_X12_expect_39, f_X12_expect_39, f_X12_expect_43, f_X12_expect_43, li_1, li_0, nI_add, nI_add, mS_p, mS_p]
    by_cases h0 : e' = 0
    · subst h0
      rw [if_pos rfl, if_pos rfl]
    · have : e' = 1 := by omega
      subst this
      rw [if_neg n10, if_neg h0, Nat.add_zero]
  have hor : ∀ y : Int32, (nI e ||| y) = nI 0 ∨ (nI e ||| y) = nI 1 → True := fun _ _ => trivial
  have pE : ∀ y : Int32, (y = 0 ∨ y = 1) → p_X12_expect_18 y (nI e) (mS u p e A) := fun y hy => by
    rw [p_X12_expect_18]
    refine ⟨?_, h22 _⟩
    have : e = 0 ∨ e = 1 := by omega
    rcases this with rfl | rfl <;> rcases hy with rfl | rfl <;> decide +kernel
  constructor
  · show p_X12_expect_0 (nI x) (mS u p e A)
    rw [p_X12_expect_0, mS_20]
    exact ⟨k1, fun _ => pE _ (Or.inl rfl), fun _ => pE _ (Or.inr rfl)⟩
  · show f_X12_expect_0 (nI x) (mS u p e A) = _
    rw [f_X12_expect_0, k2, mS_20]
    by_cases he0 : e = 0
    · subst he0
      rw [if_pos rfl, f_X12_expect_18, f_X12_expect_18, or00, or01, mS_e, mS_e, f22 0 (by omega), f22 1 (by omega), if_pos (show (0 : Nat) = 0 from rfl), if_neg (show ¬ (1 : Nat) = 0 by omega)]
      unfold rdL
      by_cases hp2 : p < n
      · have em : mk T n p 0 = T p := if_pos ⟨rfl, hp2⟩
        rw [em]
        by_cases hc : T p = nI x
        · rw [if_pos hc, if_pos ⟨hp2, hc⟩]
          rfl
        · rw [if_neg hc, if_neg (fun g => hc g.2)]
          rfl
      · have em : mk T n p 0 = (-1 : Int32) := if_neg fun g => hp2 g.2
        have g1 : ¬ (p < n ∧ T p = nI x) := fun g => hp2 g.1
        rw [em, if_neg (m1_n hx), if_neg g1]
        rfl
    · have : e = 1 := by omega
      subst this
      have e1 : mk T n p 1 = (-1 : Int32) := if_neg fun g => he0 g.1
      rw [if_neg he0, e1, if_neg (m1_n hx), f_X12_expect_18, or11, mS_e, f22 1 (by omega), if_neg (show ¬ (1 : Nat) = 0 by omega)]
/-- how many digits -/
def rdK (T : Nat → Int32) (n p k : Nat) : Option (Int32 × Nat) := if k = 2 then rdN T n p else rdD T n p
theorem K_number {T : Nat → Int32} {n c : Nat} {u : gV} (h : TM T n c u) (p e : Nat) (hp : p ≤ n) (he : e ≤ 1) (A : Nat → Int32) (k : Nat) (hk : k = 1 ∨ k = 2) : p_X12_number (nI k) (mS u p e A) ∧ f_X12_number (nI k) (mS u p e A) = if e = 0 then (rdK T n p k).elim (nI 0, mS u p 1 A) (fun xq => (xq.1, mS u xq.2 0 A)) else (nI 0, mS u p 1 A) := by
  have hn := h.1
  have hin : ∀ (y : Int32) (w : gV), f_X12_in y (48 : Int32) (57 : Int32) w = 0 ↔ inb y (nI 48) (nI 57) = false := fun y w => by
    have e := F_X12_in y (nI 48) (nI 57) w
    have e : f_X12_in y (48 : Int32) (57 : Int32) w = if inb y (nI 48) (nI 57) = true then nI 1 else nI 0 := e
    rw [e]
    by_cases hb : inb y (nI 48) (nI 57) = true
    · rw [if_pos hb, hb]
      exact ⟨fun g => absurd g n10, fun g => by cases g⟩
    · rw [if_neg hb]
      exact ⟨fun _ => Bool.eq_false_iff.mpr hb, fun _ => rfl⟩
  have hdg : ∀ (q : Nat), inb (mk T n q 0) (nI 48) (nI 57) = dgt T n q := fun q => by
    unfold mk dgt
    by_cases hq : q < n
    · rw [if_pos ⟨rfl, hq⟩, decide_eq_true hq, Bool.true_and]
    · rw [if_neg (fun g => hq g.2), decide_eq_false hq, Bool.false_and, m1_dig]
  have h85 : ∀ (x : Int32) (w : gV), p_X12_number_85 x w := fun x w => by rw [p_X12_number_85]; trivial
  have kn : ∀ j, j ≤ 1 → ¬ nI k ≤ nI j ∨ nI k ≤ nI j := fun j _ => (Decidable.em (nI k ≤ nI j)).symm
  -- a place that is no digit, or the end of the number
  have stop : ∀ (m j q e' : Nat) (x : Int32), q ≤ n → e' ≤ 1 → (k ≤ j ∨ e' = 1 ∨ dgt T n q = false) → j < 5 → p_X12_number_32 (m + 1) (nI k) x (nI j) (mS u q e' A) ∧ f_X12_number_32 (m + 1) (nI k) x (nI j) (mS u q e' A) = (x, mS u q e' A) := fun m j q e' x hq he' hst hj => by
    obtain ⟨k1, k2⟩ := K_mark h q e' hq he' A
    rw [p_X12_number_32, f_X12_number_32, k2]
    by_cases hkj : k ≤ j
    · have g : nI k ≤ nI j := by rw [le_n (by omega) (by omega)]; exact hkj
      rw [if_pos g, f_X12_number_85]
      exact ⟨⟨fun _ => h85 _ _, fun g' => absurd g g'⟩, rfl⟩
    · have g : ¬ nI k ≤ nI j := by rw [le_n (by omega) (by omega)]; exact hkj
      have hm : inb (mk T n q e') (nI 48) (nI 57) = false := by
        rcases hst.resolve_left hkj with rfl | h0
        · have e1 : mk T n q 1 = (-1 : Int32) := if_neg fun g => absurd g.1 (by omega)
          rw [e1, m1_dig]
        · by_cases h1 : e' = 0
          · subst h1
            rw [hdg q, h0]
          · have e1 : mk T n q e' = (-1 : Int32) := if_neg fun g => h1 g.1
            rw [e1, m1_dig]
      have hz := (hin (mk T n q e') (mS u q e' A)).mpr hm
      rw [if_neg g, if_pos hz, f_X12_number_85]
      exact ⟨⟨fun g' => absurd g' g, fun _ => ⟨k1, P_X12_in _ _ _ _, fun _ => h85 _ _, fun g' => absurd hz g'⟩⟩, rfl⟩
  have step : ∀ (m j q : Nat) (x : Int32), q < n → j < k → dgt T n q = true → (p_X12_number_32 m (nI k) (nI 10 * x + T q - nI 48) (nI (j + 1)) (mS u (q + 1) 0 A) → p_X12_number_32 (m + 1) (nI k) x (nI j) (mS u q 0 A)) ∧ f_X12_number_32 (m + 1) (nI k) x (nI j) (mS u q 0 A) = f_X12_number_32 m (nI k) (nI 10 * x + T q - nI 48) (nI (j + 1)) (mS u (q + 1) 0 A) := fun m j q x hq hj hd => by
    obtain ⟨k1, k2⟩ := K_mark h q 0 (by omega) (by omega) A
    have g : ¬ nI k ≤ nI j := by rw [le_n (by omega) (by omega)]; omega
    have hz : ¬ f_X12_in (mk T n q 0) (48 : Int32) (57 : Int32) (mS u q 0 A) = 0 := fun g' => by
      have := (hin _ _).mp g'
      rw [hdg q, hd] at this
      cases this
    have e567 : (mS u q 0 A).1 567 (nI q).toNatClampNeg = T q := by
      rw [cl_n (by omega), mS_o _ _ _ _ (by omega) (by omega)]
      exact h.2.2.2.2.1 q hq
    have e18 : vM (mS u q 0 A) 559 18 (nI q + (1 : Int32)) = mS u (q + 1) 0 A := by rw [li_1, nI_add, mS_p]
    have ej : nI j + 1 = nI (j + 1) := by rw [li_1, nI_add]
    constructor
    · intro hp
      rw [p_X12_number_32, k2, mS_18, e567, e18]
      refine ⟨fun g' => absurd g' g, fun _ => ⟨k1, P_X12_in _ _ _ _, fun g' => absurd g' hz, fun _ => ⟨vi_n (by omega) (by omega), ?_⟩⟩⟩
      rw [p_X12_number_79, ej]
      exact hp
    · rw [f_X12_number_32, k2, mS_18, e567, e18, if_neg g, if_neg hz, f_X12_number_79, ej]
      rfl
  obtain ⟨k1, k2⟩ := K_mark h p e hp he A
  have pE : ∀ y : Int32, (y = 0 ∨ y = 1) → ((nI e ||| y) = 0 ∨ (nI e ||| y) = 1) := fun y hy => by
    have : e = 0 ∨ e = 1 := by omega
    rcases this with rfl | rfl <;> rcases hy with rfl | rfl <;> decide +kernel
  by_cases hgo : e = 0 ∧ dgt T n p = true
  · obtain ⟨rfl, hd⟩ := hgo
    obtain ⟨a1, d, a2, a3, a4⟩ := dgt_n hd
    have hz : ¬ f_X12_in (mk T n p 0) (48 : Int32) (57 : Int32) (mS u p 0 A) = 0 := fun g' => by
      have := (hin _ _).mp g'
      rw [hdg p, hd] at this
      cases this
    have x1 : nI 10 * nI 0 + T p - nI 48 = nI d := by
      rw [nI_mul, a3, nI_add, sub_n (by omega)]
      congr 1
      omega
    obtain ⟨s1, s2⟩ := step 4999 0 p (nI 0) a1 (by omega) hd
    rw [x1] at s1 s2
    have hend : p_X12_number_32 4999 (nI k) (nI d) (nI 1) (mS u (p + 1) 0 A) ∧ f_X12_number_32 4999 (nI k) (nI d) (nI 1) (mS u (p + 1) 0 A) = (rdK T n p k).elim (nI 0, mS u p 1 A) (fun xq => (xq.1, mS u xq.2 0 A)) := by
      by_cases hk2 : k = 2 ∧ dgt T n (p + 1) = true
      · obtain ⟨rfl, hd2⟩ := hk2
        obtain ⟨b1, d', b2, b3, b4⟩ := dgt_n hd2
        have x2 : nI 10 * nI d + T (p + 1) - nI 48 = nI (10 * d + d') := by
          rw [nI_mul, b3, nI_add, sub_n (by omega)]
          congr 1
          omega
        obtain ⟨t1, t2⟩ := step 4998 1 (p + 1) (nI d) b1 (by omega) hd2
        obtain ⟨r1, r2⟩ := stop 4997 2 (p + 2) 0 (nI (10 * d + d')) (by omega) (by omega) (Or.inl (by omega)) (by omega)
        rw [x2] at t1 t2
        refine ⟨t1 r1, ?_⟩
        have e3 : rdK T n p 2 = some (nI d * nI 10 + nI d', p + 2) := by unfold rdK rdN; rw [if_pos rfl, if_pos hd, if_pos hd2, a4, b4]
        rw [e3, t2, r2]
        show (nI (10 * d + d'), mS u (p + 2) 0 A) = (nI d * nI 10 + nI d', mS u (p + 2) 0 A)
        rw [nI_mul, nI_add, Nat.mul_comm]
      · have hst : k ≤ 1 ∨ (0 : Nat) = 1 ∨ dgt T n (p + 1) = false := by
          by_cases h2 : k = 2
          · exact Or.inr (Or.inr (Bool.eq_false_iff.mpr fun g => hk2 ⟨h2, g⟩))
          · exact Or.inl (by omega)
        obtain ⟨r1, r2⟩ := stop 4998 1 (p + 1) 0 (nI d) (by omega) (by omega) hst (by omega)
        refine ⟨r1, ?_⟩
        have e3 : rdK T n p k = some (nI d, p + 1) := by
          unfold rdK
          by_cases h2 : k = 2
          · have h3 : ¬ dgt T n (p + 1) = true := fun g => hk2 ⟨h2, g⟩
            unfold rdN
            rw [if_pos h2, if_pos hd, if_neg h3, a4]
          · unfold rdD
            rw [if_neg h2, if_pos hd, a4]
        rw [e3]
        exact r2
    constructor
    · show p_X12_number_0 (nI k) (mS u p 0 A)
      rw [p_X12_number_0, k2, mS_20]
      refine ⟨k1, P_X12_in _ _ _ _, fun g => absurd g hz, fun _ => ?_⟩
      rw [p_X12_number_24, or00, mS_e, p_X12_number_28]
      exact ⟨nIor.1, s1 hend.1⟩
    · show f_X12_number_0 (nI k) (mS u p 0 A) = _
      rw [f_X12_number_0, k2, mS_20, if_neg hz, f_X12_number_24, or00, mS_e, f_X12_number_28, if_pos rfl, ← hend.2]
      exact s2
  · have hm : inb (mk T n p e) (nI 48) (nI 57) = false := by
      by_cases h1 : e = 0
      · subst h1
        rw [hdg p]
        exact Bool.eq_false_iff.mpr fun g => hgo ⟨rfl, g⟩
      · have e1 : mk T n p e = (-1 : Int32) := if_neg fun g => h1 g.1
        rw [e1, m1_dig]
    have hz := (hin (mk T n p e) (mS u p e A)).mpr hm
    have hor1 : (nI e ||| (1 : Int32)) = nI 1 := by
      have : e = 0 ∨ e = 1 := by omega
      rcases this with rfl | rfl
      · exact or01
      · exact or11
    obtain ⟨r1, r2⟩ := stop 4999 0 p 1 (nI 0) hp (by omega) (Or.inr (Or.inl rfl)) (by omega)
    have e3 : (if e = 0 then (rdK T n p k).elim (nI 0, mS u p 1 A) (fun xq => (xq.1, mS u xq.2 0 A)) else (nI 0, mS u p 1 A)) = (nI 0, mS u p 1 A) := by
      by_cases h1 : e = 0
      · have hd : ¬ dgt T n p = true := fun g => hgo ⟨h1, g⟩
        have e4 : rdK T n p k = none := by
          unfold rdK rdN rdD
          rw [if_neg hd, if_neg hd, ite_self]
        rw [if_pos h1, e4]
        rfl
      · rw [if_neg h1]
    rw [e3]
    constructor
    · show p_X12_number_0 (nI k) (mS u p e A)
      rw [p_X12_number_0, k2, mS_20]
      refine ⟨k1, P_X12_in _ _ _ _, fun _ => ?_, fun g => absurd hz g⟩
      rw [p_X12_number_24, hor1, mS_e, p_X12_number_28]
      exact ⟨nIor.2, r1⟩
    · show f_X12_number_0 (nI k) (mS u p e A) = _
      rw [f_X12_number_0, k2, mS_20, if_pos hz, f_X12_number_24, hor1, mS_e, f_X12_number_28]
      exact r2
theorem K_cause {T : Nat → Int32} {n c : Nat} {u : gV} (h : TM T n c u) (p e : Nat) (hp : p ≤ n) (he : e ≤ 1) (A : Nat → Int32) : p_X12_cause (mS u p e A) ∧ ∃ y : Int32, f_X12_cause (mS u p e A) = if e = 0 then (rdC T n p).elim (y, mS u p 1 A) (fun xq => (xq.1, mS u xq.2 0 A)) else (y, mS u p 1 A) := by
  obtain ⟨k1, k2⟩ := K_mark h p e hp he A
  have h47 : ∀ (x : Int32) (w : gV), p_X12_cause_47 x w := fun x w => by rw [p_X12_cause_47]; trivial
  have h26 : ∀ (x : Int32) (w : gV), p_X12_cause_26 x w := fun x w => by
    rw [p_X12_cause_26]
    exact ⟨fun _ => by rw [p_X12_cause_43]; exact h47 _ _, fun _ => by rw [p_X12_cause_43]; exact h47 _ _⟩
  have f26 : ∀ (x : Int32) (e' : Nat), e' ≤ 1 → f_X12_cause_26 x (mS u p e' A) = if e' = 0 then (x, mS u (p + 1) 0 A) else (x, mS u p 1 A) := fun x e' he' => by
    rw [f_X12_cause_26, mS_20, mS_18, f_X12_cause_43, f_X12_cause_43, f_X12_cause_47, f_X12_cause_47, li_1, li_0, nI_add, nI_add, mS_p, mS_p]
    by_cases h0 : e' = 0
    · subst h0
      rw [if_pos rfl, if_pos rfl]
    · have : e' = 1 := by omega
      subst this
      rw [if_neg n10, if_neg h0, Nat.add_zero]
  have pE : ∀ (x y : Int32), (y = 0 ∨ y = 1) → p_X12_cause_22 x y (nI e) (mS u p e A) := fun x y hy => by
    rw [p_X12_cause_22]
    refine ⟨?_, h26 _ _⟩
    have : e = 0 ∨ e = 1 := by omega
    rcases this with rfl | rfl <;> rcases hy with rfl | rfl <;> decide +kernel
  refine ⟨?_, mk T n p e, ?_⟩
  · show p_X12_cause_0 (mS u p e A)
    rw [p_X12_cause_0, mS_20, k2]
    exact ⟨k1, P_X12_isCause _ _, fun _ => pE _ _ (Or.inr rfl), fun _ => pE _ _ (Or.inl rfl)⟩
  · show f_X12_cause_0 (mS u p e A) = _
    rw [f_X12_cause_0, k2, mS_20, F_X12_isCause]
    by_cases he0 : e = 0
    · subst he0
      rw [if_pos rfl, f_X12_cause_22, f_X12_cause_22, or00, or01, mS_e, mS_e, f26 _ 0 (by omega), f26 _ 1 (by omega), if_pos rfl, if_neg (show ¬ (1 : Nat) = 0 by omega)]
      unfold rdC
      by_cases hp2 : p < n
      · have em : mk T n p 0 = T p := if_pos ⟨rfl, hp2⟩
        rw [em]
        by_cases hc : isC (T p) = true
        · have g0 : ¬ nI 1 = 0 := n10
          rw [if_pos hc, if_neg g0, if_pos ⟨hp2, hc⟩]
          rfl
        · have g0 : nI 0 = 0 := rfl
          rw [if_neg hc, if_pos g0, if_neg (fun g => hc g.2)]
          rfl
      · have em : mk T n p 0 = (-1 : Int32) := if_neg fun g => hp2 g.2
        have hc : ¬ isC (-1 : Int32) = true := by rw [m1_isC]; decide
        have g0 : nI 0 = 0 := rfl
        rw [em, if_neg hc, if_pos g0, if_neg (fun g => hp2 g.1)]
        rfl
    · have : e = 1 := by omega
      subst this
      have em : mk T n p 1 = (-1 : Int32) := if_neg fun g => he0 g.1
      have hc : ¬ isC (-1 : Int32) = true := by rw [m1_isC]; decide
      have g0 : nI 0 = 0 := rfl
      rw [if_neg he0, em, if_neg hc, if_pos g0, f_X12_cause_22, or11, mS_e, f26 _ 1 (by omega), if_neg (show ¬ (1 : Nat) = 0 by omega)]
theorem K_put {T : Nat → Int32} {n c : Nat} {u : gV} (h : TM T n c u) (p e : Nat) (A : Nat → Int32) (i : Nat) (hi : i < 4) (x : Int32) : p_X12_put (nI i) x (mS u p e A) ∧ f_X12_put (nI i) x (mS u p e A) = mS u p e (upd A (4 * c + i) x) := by
  have hc := h.2.1
  have e19 : (mS u p e A).1 559 19 = nI c := by rw [mS_k _ _ _ _ (by omega) (by omega)]; exact h.2.2.2.1
  have ei : (4 : Int32) * nI c + nI i = nI (4 * c + i) := by rw [li_4, nI_mul, nI_add]
  constructor
  · show p_X12_put_0 (nI i) x (mS u p e A)
    rw [p_X12_put_0, e19, ei]
    exact ⟨vi_n (by omega) (by omega), by rw [p_X12_put_14]; trivial⟩
  · show f_X12_put_0 (nI i) x (mS u p e A) = _
    rw [f_X12_put_0, e19, ei, cl_n (by omega), mS_A, f_X12_put_14]
