/-! what treaties bear, by runs and by coins -/
theorem ff_is {c : Nat → Bool} : ∀ (m k i : Nat), k ≤ i → i < k + m → c i = true → (∀ j, k ≤ j → j < i → c j = false) → ff c m k = some i := by
  intro m
  induction m with
  | zero => intro k i h1 h2; omega
  | succ m ih =>
    intro k i h1 h2 h3 h4
    rw [ff_s]
    by_cases e : k = i
    · subst e
      rw [if_pos h3]
    · rw [if_neg (by rw [h4 k (Nat.le_refl _) (by omega)]; exact Bool.false_ne_true)]
      exact ih (k + 1) i (by omega) (by omega) h3 fun j a b => h4 j (by omega) b
theorem ff_no {c : Nat → Bool} : ∀ (m k : Nat), (∀ i, k ≤ i → i < k + m → c i = false) → ff c m k = none := by
  intro m
  induction m with
  | zero => intro k _; rfl
  | succ m ih =>
    intro k h
    rw [ff_s, if_neg (by rw [h k (Nat.le_refl _) (by omega)]; exact Bool.false_ne_true)]
    exact ih (k + 1) fun i a b => h i (by omega) (by omega)
theorem lp_plus {α : Type} (g : Nat → α → α) : ∀ (a b k : Nat) (x : α), lp g (a + b) k x = lp g b (k + a) (lp g a k x) := by
  intro a
  induction a with
  | zero => intro b k x; rw [Nat.zero_add]; rfl
  | succ a ih =>
    intro b k x
    rw [show a + 1 + b = (a + b) + 1 by omega, lp_s, lp_s, ih, show k + 1 + a = k + (a + 1) by omega]
theorem L_endOfRun (v : gV) {c R : Nat} (hR : R ≤ 4) (hc : c < 4000) (hS : ∀ j, j < R → 0 ≤ (v.1 32 j).toInt) : ∀ (m i fuel e : Nat), i + m = R → m < fuel → c ≤ e → e < 4000 → p_X8_endOfRun_56 1 fuel (nI c) (nI e) (nI R) (nI i) v ∧ ∃ e' : Nat, f_X8_endOfRun_56 1 fuel (nI c) (nI e) (nI R) (nI i) v = nI e' ∧ c ≤ e' ∧ e' ≤ e ∧ ∀ j, i ≤ j → j < R → 0 < (v.1 36 j).toInt → (c : Int) ≤ (v.1 32 j).toInt → (e' : Int) ≤ (v.1 32 j).toInt := by
  intro m
  induction m with
  | zero =>
    intro i fuel e hi hf h1 h2
    obtain ⟨f, rfl⟩ := fuel_s hf
    have hle : nI R ≤ nI i := nI_le (by omega) (by omega)
    rw [p_X8_endOfRun_56, f_X8_endOfRun_56, if_pos hle]
    exact ⟨⟨fun _ => trivial, fun h => absurd hle h⟩, e, rfl, h1, Nat.le_refl _, fun j a b => by omega⟩
  | succ m ih =>
    intro i fuel e hi hf h1 h2
    obtain ⟨f, rfl⟩ := fuel_s hf
    have hle : ¬ nI R ≤ nI i := nI_ge (by omega) (by omega)
    have hv : vp_in (nI i) 4 := vi_n (by omega) (by omega)
    have hci : (nI i).toNatClampNeg = i := cl_n (by omega)
    have z0 : (0 : Int32).toInt = 0 := rfl
    rw [p_X8_endOfRun_56, f_X8_endOfRun_56, if_neg hle, hci]
    simp only [f_X8_endOfRun_98, p_X8_endOfRun_98, nI_1, Nat.reduceAdd, hle, hv, not_false_eq_true, false_implies, true_implies, true_and]
    by_cases hL : v.1 36 i ≤ 0
    · obtain ⟨q1, e', q2, q3, q4, q5⟩ := ih (i + 1) f e (by omega) (by omega) h1 h2
      rw [if_pos hL]
      refine ⟨⟨fun _ => q1, fun h => absurd hL h⟩, e', q2, q3, q4, fun j a b c1 c2 => ?_⟩
      by_cases ej : j = i
      · subst ej
        rw [i_le, z0] at hL
        omega
      · exact q5 j (by omega) b c1 c2
    · rw [if_neg hL]
      by_cases hs : v.1 32 i < nI c
      · obtain ⟨q1, e', q2, q3, q4, q5⟩ := ih (i + 1) f e (by omega) (by omega) h1 h2
        rw [if_pos hs]
        refine ⟨⟨fun h => absurd h hL, fun _ => ⟨fun _ => q1, fun h => absurd hs h⟩⟩, e', q2, q3, q4, fun j a b c1 c2 => ?_⟩
        by_cases ej : j = i
        · subst ej
          rw [i_lt, tI (by omega)] at hs
          omega
        · exact q5 j (by omega) b c1 c2
      · rw [if_neg hs]
        have hs0 := hS i (by omega)
        have hSn := i_nn hs0
        rw [i_lt, tI (by omega)] at hs
        by_cases hm : v.1 32 i < nI e
        · rw [if_pos hm]
          have hm2 := hm
          rw [i_lt, tI (by omega)] at hm2
          obtain ⟨q1, e', q2, q3, q4, q5⟩ := ih (i + 1) f (v.1 32 i).toInt.toNat (by omega) (by omega) (by omega) (by omega)
          rw [← hSn] at q1 q2
          have hs' : ¬ v.1 32 i < nI c := by rw [i_lt, tI (by omega)]; exact hs
          refine ⟨⟨fun h => absurd h hL, fun _ => ⟨fun h => absurd h hs', fun _ => q1⟩⟩, e', q2, q3, by omega, fun j a b c1 c2 => ?_⟩
          by_cases ej : j = i
          · subst ej
            omega
          · exact q5 j (by omega) b c1 c2
        · rw [if_neg hm]
          rw [i_lt, tI (by omega)] at hm
          obtain ⟨q1, e', q2, q3, q4, q5⟩ := ih (i + 1) f e (by omega) (by omega) h1 h2
          have hs' : ¬ v.1 32 i < nI c := by rw [i_lt, tI (by omega)]; exact hs
          refine ⟨⟨fun h => absurd h hL, fun _ => ⟨fun h => absurd h hs', fun _ => q1⟩⟩, e', q2, q3, q4, fun j a b c1 c2 => ?_⟩
          by_cases ej : j = i
          · subst ej
            omega
          · exact q5 j (by omega) b c1 c2
theorem min_n {a b : Nat} (ha : a < 2147483648) (hb : b < 2147483648) : (if nI a < nI b then nI a else nI b) = nI (if a < b then a else b) := by
  by_cases h : a < b
  · rw [if_pos (by rw [lt_n ha hb]; exact h), if_pos h]
  · rw [if_neg (by rw [lt_n ha hb]; exact h), if_neg h]
theorem K_endOfRun {v : gV} {n c A : Nat} (t : Option Nat) (h6 : v.1 31 6 = nI n) (hn : n ≤ 4) (hA : A < 4000) (hc0 : 1 ≤ c) (hc : c ≤ A) (hb : ∀ o, o < n → 0 ≤ (v.1 32 o).toInt ∧ (v.1 32 o).toInt ≤ 29 ∧ 1 ≤ (v.1 33 o).toInt ∧ (v.1 33 o).toInt ≤ 30 ∧ 0 ≤ (v.1 36 o).toInt ∧ (v.1 36 o).toInt ≤ 99) (ht : ∀ o, t = some o → o < n ∧ (c : Int) ≤ (v.1 32 o).toInt + (v.1 33 o).toInt ∧ 1 ≤ (v.1 36 o).toInt) : p_X8_endOfRun 1 (nI c) (oN t) (nI A) v ∧ ∃ e : Nat, f_X8_endOfRun 1 (nI c) (oN t) (nI A) v = nI e ∧ c ≤ e ∧ e ≤ A ∧ (∀ o, t = some o → (e : Int) ≤ (v.1 32 o).toInt + (v.1 33 o).toInt ∧ (e : Int) ≤ c + (v.1 36 o).toInt - 1) ∧ ∀ j, j < n → (∀ o, t = some o → j < o) → 0 < (v.1 36 j).toInt → (c : Int) ≤ (v.1 32 j).toInt → (e : Int) ≤ (v.1 32 j).toInt := by
  cases t with
  | none =>
    obtain ⟨q1, e, q2, q3, q4, q5⟩ := L_endOfRun v (c := c) hn (by omega) (fun j hj => (hb j hj).1) n 0 5000 A (by omega) (by omega) hc hA
    have hp : oN none < 0 := oN_none'
    refine ⟨?_, e, ?_, q3, q4, fun o h => (by cases h), fun j hj _ a b => q5 j (by omega) hj a b⟩
    · simp only [p_X8_endOfRun, p_X8_endOfRun_0, p_X8_endOfRun_53, Nat.reduceAdd, h6, hp, true_implies, not_true_eq_false, false_implies, and_true]
      exact q1
    · simp only [f_X8_endOfRun, f_X8_endOfRun_0, f_X8_endOfRun_53, Nat.reduceAdd, h6, hp, if_true]
      exact q2
  | some o =>
    obtain ⟨ho, h1, h2⟩ := ht o rfl
    obtain ⟨b1, b2, b3, b4, b5, b6⟩ := hb o ho
    have hp : ¬ oN (some o) < 0 := oN_some' (by omega)
    have hcl : (oN (some o)).toNatClampNeg = o := cl_n (by omega)
    have hv : vp_in (oN (some o)) 4 := vi_n (by omega) (by omega)
    have e1 : v.1 32 o + v.1 33 o = nI ((v.1 32 o).toInt + (v.1 33 o).toInt).toNat := by
      rw [i_eq, ti_add (by omega) (by omega), tI (by omega)]
      omega
    have e2 : nI c + v.1 36 o - (1 : Int32) = nI (c + (v.1 36 o).toInt.toNat - 1) := by
      have hL := i_nn b5
      rw [hL, nI_add, li_1, sub_n (by omega)]
      rw [← hL]
    obtain ⟨q1, e, q2, q3, q4, q5⟩ := L_endOfRun v (c := c) (R := o) (by omega) (by omega) (fun j hj => (hb j (by omega)).1) o 0 5000 (if (c + (v.1 36 o).toInt.toNat - 1) < (if ((v.1 32 o).toInt + (v.1 33 o).toInt).toNat < A then ((v.1 32 o).toInt + (v.1 33 o).toInt).toNat else A) then (c + (v.1 36 o).toInt.toNat - 1) else (if ((v.1 32 o).toInt + (v.1 33 o).toInt).toNat < A then ((v.1 32 o).toInt + (v.1 33 o).toInt).toNat else A)) (by omega) (by omega) (by split <;> split <;> omega) (by split <;> split <;> omega)
    have em : (if nI c + v.1 36 o - (1 : Int32) < (if v.1 32 o + v.1 33 o < nI A then v.1 32 o + v.1 33 o else nI A) then nI c + v.1 36 o - (1 : Int32) else (if v.1 32 o + v.1 33 o < nI A then v.1 32 o + v.1 33 o else nI A)) = nI (if (c + (v.1 36 o).toInt.toNat - 1) < (if ((v.1 32 o).toInt + (v.1 33 o).toInt).toNat < A then ((v.1 32 o).toInt + (v.1 33 o).toInt).toNat else A) then (c + (v.1 36 o).toInt.toNat - 1) else (if ((v.1 32 o).toInt + (v.1 33 o).toInt).toNat < A then ((v.1 32 o).toInt + (v.1 33 o).toInt).toNat else A)) := by
      rw [e1, e2, min_n (by omega) (by omega), min_n (by omega) (by split <;> omega)]
    refine ⟨?_, e, ?_, q3, ?_, fun o' h => ?_, fun j hj hjo a b => q5 j (by omega) (hjo o rfl) a b⟩
    · simp only [p_X8_endOfRun, p_X8_endOfRun_0, p_X8_endOfRun_53, Nat.reduceAdd, hcl, hv, hp, not_false_eq_true, true_implies, false_implies, true_and]
      rw [em]
      exact q1
    · simp only [f_X8_endOfRun, f_X8_endOfRun_0, f_X8_endOfRun_53, Nat.reduceAdd, hcl, hp, if_false]
      rw [em]
      exact q2
    · revert q4
      split <;> split <;> omega
    · cases h
      revert q4
      split <;> split <;> omega
theorem sub_1 {a : Int32} {m : Nat} (h : (m : Int) + 1 ≤ a.toInt) : a - nI m - nI 1 = a - nI (m + 1) := by
  have h2 := ti_hi a
  have e1 : (a - nI m).toInt = a.toInt - m := by
    rw [ti_sub (by rw [tI (by omega)]; omega) (by rw [tI (by omega)]; omega), tI (by omega)]
  rw [i_eq, ti_sub (by rw [e1, tI (by omega)]; omega) (by rw [e1, tI (by omega)]; omega), e1, tI (by omega), ti_sub (by rw [tI (by omega)]; omega) (by rw [tI (by omega)]; omega), tI (by omega)]
  omega
theorem upd_upd (f : Nat → Int32) (k : Nat) (x y : Int32) : upd (upd f k x) k y = upd f k y := by
  funext i
  rw [upd_at, upd_at, upd_at]
  by_cases h : i = k
  · rw [if_pos h, if_pos h]
  · rw [if_neg h, if_neg h, if_neg h]
theorem upd_id (f : Nat → Int32) (k : Nat) : upd f k (f k) = f := by
  funext i
  rw [upd_at]
  by_cases h : i = k
  · rw [if_pos h, h]
  · rw [if_neg h]
def bRun (s : bSt) (m : Nat) : Option Nat → bSt
  | none => s
  | some o => (upd s.1 o (s.1 o + nI m), upd s.2.1 o (s.2.1 o - nI m), s.2.2 + nI m)
theorem bFit_iff {w L : Nat → Int32} {c o : Nat} (hc : c < 4000) (h1 : 0 ≤ (w (216 + 4 * o)).toInt) (h2 : (w (216 + 4 * o)).toInt ≤ 29) (h3 : 1 ≤ (w (216 + 4 * o + 1)).toInt) (h4 : (w (216 + 4 * o + 1)).toInt ≤ 30) : bFit w L c o = true ↔ (w (216 + 4 * o)).toInt < c ∧ (c : Int) ≤ (w (216 + 4 * o)).toInt + (w (216 + 4 * o + 1)).toInt ∧ ¬ (L o).toInt = 0 := by
  have e := ti_add (a := w (216 + 4 * o)) (b := w (216 + 4 * o + 1)) (by omega) (by omega)
  unfold bFit
  simp only [Bool.and_eq_true, Bool.not_eq_true', decide_eq_false_iff_not]
  rw [i_le, i_lt, i_eq, e, tI (by omega), tI (by omega)]
  constructor
  · rintro ⟨a, b, d⟩
    exact ⟨by omega, by omega, by omega⟩
  · rintro ⟨a, b, d⟩
    exact ⟨by omega, by omega, by omega⟩
theorem run_step {w : Nat → Int32} {n c : Nat} {s : bSt} {t : Option Nat} (hn : n ≤ 4) (hw : WFt w n) (ht : ff (bFit w s.2.1 c) n 0 = t) (hL : ∀ o, o < n → 0 ≤ (s.2.1 o).toInt ∧ (s.2.1 o).toInt ≤ 99) : ∀ m : Nat, c + m < 4000 → (∀ o, t = some o → (c : Int) + m - 1 ≤ (w (216 + 4 * o)).toInt + (w (216 + 4 * o + 1)).toInt ∧ (m : Int) ≤ (s.2.1 o).toInt) → (∀ j, j < n → (∀ o, t = some o → j < o) → 0 < (s.2.1 j).toInt → (c : Int) ≤ (w (216 + 4 * j)).toInt → (c : Int) + m - 1 ≤ (w (216 + 4 * j)).toInt) → lp (bNext w n) m c s = bRun s m t := by
  intro m
  induction m with
  | zero =>
    intro _ _ _
    cases t with
    | none => rfl
    | some o =>
      show s = (upd s.1 o (s.1 o + nI 0), upd s.2.1 o (s.2.1 o - nI 0), s.2.2 + nI 0)
      have z : nI 0 = 0 := rfl
      rw [z, Int32.add_zero, Int32.add_zero, Int32.sub_zero, upd_id, upd_id]
  | succ m ih =>
    intro hc h1 h2
    have h3 := ih (by omega) (fun o h => by have := h1 o h; omega) (fun j a b d e => by have := h2 j a b d e; omega)
    rw [lp_last, h3]
    have hmiss : ∀ j, j < n → (∀ o, t = some o → j < o) → bFit w (bRun s m t).2.1 (c + m) j = false := by
      intro j hj hjo
      obtain ⟨w1, w2, w3, w4, w5⟩ := hw j hj
      have hcj : bFit w s.2.1 c j = false := by
        cases e : t with
        | none =>
          rw [e] at ht
          exact ff_none n 0 ht j (by omega) (by omega)
        | some o =>
          rw [e] at ht
          exact (ff_some n 0 o ht).2.2.2 j (by omega) (hjo o e)
      have hLj : (bRun s m t).2.1 j = s.2.1 j := by
        cases e : t with
        | none => rfl
        | some o =>
          show upd s.2.1 o (s.2.1 o - nI m) j = s.2.1 j
          have := hjo o e
          rw [upd_ne (by omega)]
      rw [Bool.eq_false_iff] at hcj ⊢
      intro hx
      apply hcj
      rw [bFit_iff (by omega) w1 w2 w3 w4] at hx ⊢
      rw [hLj] at hx
      have hl := hL j hj
      have h4 := h2 j hj hjo (by omega)
      refine ⟨?_, by omega, hx.2.2⟩
      by_cases h5 : (c : Int) ≤ (w (216 + 4 * j)).toInt
      · have := h4 h5
        omega
      · omega
    cases e : t with
    | none =>
      subst e
      unfold bNext
      rw [ff_no n 0 fun j _ hj => hmiss j (by omega) fun o h => by cases h]
      rfl
    | some o =>
      subst e
      obtain ⟨-, f1, f2, -⟩ := ff_some n 0 o ht
      have f1 : o < n := by omega
      obtain ⟨w1, w2, w3, w4, w5⟩ := hw o f1
      obtain ⟨g1, g2⟩ := h1 o rfl
      have hl := hL o f1
      rw [bFit_iff (by omega) w1 w2 w3 w4] at f2
      have hLo : ((bRun s m (some o)).2.1 o).toInt = (s.2.1 o).toInt - m := by
        show (upd s.2.1 o (s.2.1 o - nI m) o).toInt = _
        rw [upd_eq, ti_sub (by rw [tI (by omega)]; omega) (by rw [tI (by omega)]; omega), tI (by omega)]
      have hhit : bFit w (bRun s m (some o)).2.1 (c + m) o = true := by
        rw [bFit_iff (by omega) w1 w2 w3 w4, hLo]
        exact ⟨by omega, by omega, by omega⟩
      have hff : ff (bFit w (bRun s m (some o)).2.1 (c + m)) n 0 = some o := ff_is n 0 o (by omega) (by omega) hhit fun j _ hj => hmiss j (by omega) fun o' h => by cases h; exact hj
      unfold bNext
      rw [hff]
      show bTake (bRun s m (some o)) o = bRun s (m + 1) (some o)
      show (upd (upd s.1 o (s.1 o + nI m)) o (upd s.1 o (s.1 o + nI m) o + nI 1), upd (upd s.2.1 o (s.2.1 o - nI m)) o (upd s.2.1 o (s.2.1 o - nI m) o - nI 1), s.2.2 + nI m + nI 1) = (upd s.1 o (s.1 o + nI (m + 1)), upd s.2.1 o (s.2.1 o - nI (m + 1)), s.2.2 + nI (m + 1))
      rw [upd_eq, upd_eq, upd_upd, upd_upd, sub_1 (by omega), Int32.add_assoc, Int32.add_assoc, nI_add]
theorem L_runs (v : gV) (w : Nat → Int32) {n A : Nat} (hn : n ≤ 4) (hA : A < 3000) (hw : WFt w n) (h6 : v.1 31 6 = nI n) (hS : ∀ o, o < n → v.1 32 o = w (216 + 4 * o) ∧ v.1 33 o = w (216 + 4 * o + 1)) : ∀ (M m c fuel : Nat) (s : bSt), m ≤ M → c + m = A + 1 → 1 ≤ c → m < fuel → (∀ o, o < n → 0 ≤ (s.2.1 o).toInt ∧ (s.2.1 o).toInt ≤ 99) → p_X8_countByRuns_15 1 fuel (nI A) s.2.2 (nI c) (vRow v 36 s.2.1) ∧ f_X8_countByRuns_15 1 fuel (nI A) s.2.2 (nI c) (vRow v 36 s.2.1) = ((lp (bNext w n) m c s).2.2, vRow v 36 (lp (bNext w n) m c s).2.1) := by
  intro M
  induction M with
  | zero =>
    intro m c fuel s hm hk h1 hf hL
    obtain rfl : m = 0 := by omega
    obtain ⟨f, rfl⟩ := fuel_s hf
    have hlt : nI A < nI c := by rw [lt_n (by omega) (by omega)]; omega
    rw [p_X8_countByRuns_15, f_X8_countByRuns_15, if_pos hlt]
    exact ⟨⟨fun _ => trivial, fun h => absurd hlt h⟩, rfl⟩
  | succ M ih =>
    intro m c fuel s hm hk h1 hf hL
    by_cases hm0 : m = 0
    · exact ih m c fuel s (by omega) hk h1 hf hL
    obtain ⟨f, rfl⟩ := fuel_s hf
    have hlt : ¬ nI A < nI c := by rw [lt_n (by omega) (by omega)]; omega
    have u6 : (vRow v 36 s.2.1).1 31 6 = nI n := by rw [vRow_ne _ _ (by omega)]; exact h6
    have uL : (vRow v 36 s.2.1).1 36 = s.2.1 := vRow_eq _ _ _
    have u32 : (vRow v 36 s.2.1).1 32 = v.1 32 := vRow_ne _ _ (by omega)
    have u33 : (vRow v 36 s.2.1).1 33 = v.1 33 := vRow_ne _ _ (by omega)
    obtain ⟨t1, t2⟩ := K_treatyOf (vRow v 36 s.2.1) 36 c w hn u6 (by rw [u32, u33]; exact hS) (by rw [uL]; exact fun o ho => (hL o ho).1)
    rw [uL] at t2
    generalize ht : ff (bFit w s.2.1 c) n 0 = t at t2
    have htt : ∀ o, t = some o → o < n ∧ (w (216 + 4 * o)).toInt < c ∧ (c : Int) ≤ (w (216 + 4 * o)).toInt + (w (216 + 4 * o + 1)).toInt ∧ 1 ≤ (s.2.1 o).toInt := by
      intro o ho
      subst ho
      obtain ⟨-, f1, f2, -⟩ := ff_some n 0 o ht
      obtain ⟨w1, w2, w3, w4, w5⟩ := hw o (by omega)
      rw [bFit_iff (by omega) w1 w2 w3 w4] at f2
      have := (hL o (by omega)).1
      exact ⟨by omega, f2.1, f2.2.1, by omega⟩
    obtain ⟨r1, e, r2, r3, r4, r5, r6⟩ := K_endOfRun (v := vRow v 36 s.2.1) (c := c) (A := A) t u6 hn (by omega) h1 (by omega) (fun o ho => by
      obtain ⟨w1, w2, w3, w4, w5⟩ := hw o ho
      rw [u32, u33, uL, (hS o ho).1, (hS o ho).2]
      exact ⟨w1, w2, w3, w4, hL o ho⟩) (fun o ho => by
      obtain ⟨a1, a2, a3, a4⟩ := htt o ho
      rw [u32, u33, uL, (hS o a1).1, (hS o a1).2]
      exact ⟨a1, a3, a4⟩)
    rw [uL] at r5 r6
    rw [u32] at r5 r6
    rw [u33] at r5
    have hrun := run_step (s := s) (t := t) (c := c) hn hw ht hL (e - c + 1) (by omega) (fun o ho => by
      obtain ⟨a1, a2, a3, a4⟩ := htt o ho
      have := r5 o ho
      rw [(hS o a1).1, (hS o a1).2] at this
      omega) (fun j hj hjo a b => by
      have := r6 j hj hjo a (by rw [(hS j hj).1]; exact b)
      rw [(hS j hj).1] at this
      omega)
    have hsplit : lp (bNext w n) m c s = lp (bNext w n) (m - (e - c + 1)) (c + (e - c + 1)) (bRun s (e - c + 1) t) := by
      rw [← hrun, ← lp_plus]
      congr 1
      omega
    have hmax : (if nI c < nI e then nI e else nI c) + (1 : Int32) = nI (c + (e - c + 1)) := by
      by_cases hce : c < e
      · rw [if_pos (by rw [lt_n (by omega) (by omega)]; exact hce), li_1, nI_add]
        congr 1
        omega
      · rw [if_neg (by rw [lt_n (by omega) (by omega)]; exact hce), li_1, nI_add]
        congr 1
        omega
    have hdif : nI e - nI c + (1 : Int32) = nI (e - c + 1) := by
      rw [sub_n r3, li_1, nI_add]
    have hL2 : ∀ o, o < n → 0 ≤ ((bRun s (e - c + 1) t).2.1 o).toInt ∧ ((bRun s (e - c + 1) t).2.1 o).toInt ≤ 99 := by
      intro o ho
      cases et : t with
      | none => exact hL o ho
      | some o' =>
        show 0 ≤ (upd s.2.1 o' (s.2.1 o' - nI (e - c + 1)) o).toInt ∧ (upd s.2.1 o' (s.2.1 o' - nI (e - c + 1)) o).toInt ≤ 99
        by_cases eo : o = o'
        · subst eo
          have := r5 o et
          have := hL o ho
          rw [upd_eq, ti_sub (by rw [tI (by omega)]; omega) (by rw [tI (by omega)]; omega), tI (by omega)]
          omega
        · rw [upd_ne eo]
          exact hL o ho
    have hi := ih (m - (e - c + 1)) (c + (e - c + 1)) f (bRun s (e - c + 1) t) (by omega) (by omega) (by omega) (by omega) hL2
    rw [← hsplit] at hi
    rw [p_X8_countByRuns_15, f_X8_countByRuns_15, if_neg hlt]
    simp only [Nat.reduceAdd, t2, r2]
    cases et : t with
    | none =>
      subst et
      have hp : oN none < 0 := oN_none'
      simp only [f_X8_countByRuns_71, p_X8_countByRuns_71, hp, hlt, hmax, t1, r1, if_true, true_implies, not_true_eq_false, not_false_eq_true, false_implies, and_true, true_and]
      exact hi
    | some o =>
      subst et
      obtain ⟨a1, -, -, -⟩ := htt o rfl
      have hp : ¬ oN (some o) < 0 := oN_some' (by omega)
      have hcl : (oN (some o)).toNatClampNeg = o := cl_n (by omega)
      have hv : vp_in (oN (some o)) 4 := vi_n (by omega) (by omega)
      have hst : vM (vRow v 36 s.2.1) 36 o (s.2.1 o - nI (e - c + 1)) = vRow v 36 (upd s.2.1 o (s.2.1 o - nI (e - c + 1))) := by
        rw [vM_rw, vRow_row, vRow_eq]
      simp only [f_X8_countByRuns_71, p_X8_countByRuns_71, f_X8_countByRuns_62, p_X8_countByRuns_62, hp, hlt, hcl, hv, uL, hdif, hst, hmax, t1, r1, if_false, true_implies, not_false_eq_true, false_implies, true_and]
      exact hi
/-- the count of coins does not hang on what stood there -/
theorem brs_cnt (w : Nat → Int32) {n A : Nat} (hn : n ≤ 4) (P L B0 L0 : Nat → Int32) (hL : ∀ o, o < n → L o = w (216 + 4 * o + 2)) : (lp (bNext w n) A 1 (P, L, nI 0)).2.2 = (brs w n A B0 L0).2.2 := by
  have h := lp_inv2 (g := bNext w n) (h := bNext w n) (fun _ s t => (∀ o, o < n → s.2.1 o = t.2.1 o) ∧ s.2.2 = t.2.2) A 1 (P, L, nI 0) (bInit w n B0 L0) ⟨fun o ho => by show L o = (if o < 4 then (if o < n then w (216 + 4 * o + 2) else nI 0) else L0 o); rw [hL o ho, if_pos (by omega), if_pos ho], rfl⟩ (fun i s t _ _ hs => by
    unfold bNext
    have e : ff (bFit w s.2.1 i) n 0 = ff (bFit w t.2.1 i) n 0 := ff_congr n 0 fun o _ ho => by unfold bFit; rw [hs.1 o (by omega)]
    rw [e]
    cases e2 : ff (bFit w t.2.1 i) n 0 with
    | none => exact hs
    | some o =>
      refine ⟨fun o' ho' => ?_, ?_⟩
      · show upd s.2.1 o (s.2.1 o - nI 1) o' = upd t.2.1 o (t.2.1 o - nI 1) o'
        have h1 := (ff_some n 0 o e2).2.1
        rw [upd_at, upd_at, hs.1 o' ho', hs.1 o (by omega)]
      · show s.2.2 + nI 1 = t.2.2 + nI 1
        rw [hs.2])
  exact h.2
/-- what is to be known of the treaties -/
theorem tre_cap {v : gV} {b : Nat} {w : Nat → Int32} {np nc nt : Nat} (wc : WFc w np nc nt) (wt : WFt w nt) (bk : BRk v b w nc nt) (ht4 : nt ≤ 4) {k : Nat} (hk : k < nt) : 0 ≤ (w (216 + 4 * k + 2)).toInt ∧ (w (216 + 4 * k + 2)).toInt ≤ 99 := by
  have h1 := bk.2 k hk
  have h2 : 0 ≤ sI (fun i => prt w i k) nc := sI_nn fun i hi => (wc.1 i hi).2.2.2.2.2.2.2.2.2.2.1 k (by omega)
  have h3 := (wt k hk).2.2.2.2
  exact ⟨h3, by omega⟩
def nbr (w : Nat → Int32) (n A : Nat) : Int32 := (brs w n A (fun _ => nI 0) (fun _ => nI 0)).2.2
theorem nbr_eq (w : Nat → Int32) {n : Nat} (A : Nat) (hn : n ≤ 4) (B0 L0 : Nat → Int32) : (brs w n A B0 L0).2.2 = nbr w n A := by
  unfold nbr
  rw [← brs_cnt w hn (fun _ => nI 0) (fun o => w (216 + 4 * o + 2)) B0 L0 fun _ _ => rfl, ← brs_cnt w hn (fun _ => nI 0) (fun o => w (216 + 4 * o + 2)) _ _ fun _ _ => rfl]
theorem K_countByRuns {B np nc nt no A : Nat} {v : gV} {w : Nat → Int32} (h : BR B v 1 w np nc nt no) (hA : A < 3000) : p_X8_countByRuns 1 (nI A) v ∧ ∃ L, f_X8_countByRuns 1 (nI A) v = (nbr w nt A, vRow v 36 L) := by
  have n7 := h.1.2.2.2.2.2.2.1
  have wt := h.2.2.2.2.1
  have bt := h.2.2.2.2.2.2.2.2.2.2.1
  have bk := h.2.2.2.2.2.2.2.2.2.2.2.2.2.1
  have s6 : v.1 31 6 = nI nt := h.2.2.2.2.2.2.2.1.2.2.2.2.1
  have hcp : f_X11_copyRow 34 4 36 4 v = vRow v 36 (cpy (v.1 34) (v.1 36) 4) := F_X11_copyRow 34 36 4 v (by omega)
  have hpp := P_X11_copyRow 34 36 4 v (by omega)
  have hcap : ∀ o, o < nt → cpy (v.1 34) (v.1 36) 4 o = w (216 + 4 * o + 2) := fun o ho => by
    rw [cpy_lt (by omega)]
    exact (bt o ho).2.2
  obtain ⟨q1, q2⟩ := L_runs v w n7 hA wt s6 (fun o ho => ⟨(bt o ho).1, (bt o ho).2.1⟩) A A 1 5000 (fun _ => nI 0, cpy (v.1 34) (v.1 36) 4, nI 0) (Nat.le_refl _) (by omega) (by omega) (by omega) (fun o ho => by
    show 0 ≤ (cpy (v.1 34) (v.1 36) 4 o).toInt ∧ (cpy (v.1 34) (v.1 36) 4 o).toInt ≤ 99
    rw [hcap o ho]
    exact tre_cap h.2.2.2.1 wt bk n7 ho)
  have e := brs_cnt w (A := A) n7 (fun _ => nI 0) (cpy (v.1 34) (v.1 36) 4) (fun _ => nI 0) (fun _ => nI 0) hcap
  refine ⟨?_, (lp (bNext w nt) A 1 (fun _ => nI 0, cpy (v.1 34) (v.1 36) 4, nI 0)).2.1, ?_⟩
  · simp only [p_X8_countByRuns, p_X8_countByRuns_0, p_X8_countByRuns_11, Nat.reduceAdd, hpp, hcp, true_and]
    exact q1
  · simp only [f_X8_countByRuns, f_X8_countByRuns_0, f_X8_countByRuns_11, Nat.reduceAdd, hcp]
    refine q2.trans ?_
    rw [e]
    rfl
theorem K_countByCoins {B np nc nt no A : Nat} {v : gV} {w : Nat → Int32} (h : BR B v 1 w np nc nt no) (hA : A < 3000) : p_X8_countByCoins 1 (nI A) v ∧ ∃ L P, f_X8_countByCoins 1 (nI A) v = (nbr w nt A, vRow (vRow v 36 L) 37 P) := by
  have n7 := h.1.2.2.2.2.2.2.1
  have wt := h.2.2.2.2.1
  have bt := h.2.2.2.2.2.2.2.2.2.2.1
  have bk := h.2.2.2.2.2.2.2.2.2.2.2.2.2.1
  have s6 : v.1 31 6 = nI nt := h.2.2.2.2.2.2.2.1.2.2.2.2.1
  have hcp : f_X11_copyRow 34 4 36 4 v = vRow v 36 (cpy (v.1 34) (v.1 36) 4) := F_X11_copyRow 34 36 4 v (by omega)
  have hpp := P_X11_copyRow 34 36 4 v (by omega)
  have hcap : ∀ o, o < nt → cpy (v.1 34) (v.1 36) 4 o = w (216 + 4 * o + 2) := fun o ho => by
    rw [cpy_lt (by omega)]
    exact (bt o ho).2.2
  have hfi := F_J7_fill 37 4 (nI 0) (vRow v 36 (cpy (v.1 34) (v.1 36) 4)) (by omega)
  have hfp := P_J7_fill 37 4 (nI 0) (vRow v 36 (cpy (v.1 34) (v.1 36) 4)) (by omega)
  rw [vRow_ne _ _ (show ¬ 37 = 36 by omega)] at hfi
  obtain ⟨q1, q2⟩ := K_bearCoins (vRow (vRow v 36 (cpy (v.1 34) (v.1 36) 4)) 37 (fil (v.1 37) (nI 0) 0 4)) w (n := nt) (A := A) (j2 := 36) (j3 := 37) n7 (by omega) (by omega) (by omega) (by omega) (by rw [vRow_ne _ _ (by omega), vRow_ne _ _ (by omega)]; exact s6) (fun o ho => by
    rw [vRow_ne _ _ (by omega), vRow_ne _ _ (by omega), vRow_ne _ _ (by omega), vRow_ne _ _ (by omega)]
    exact ⟨(bt o ho).1, (bt o ho).2.1⟩) (fun o ho => by
    rw [vRow_ne _ _ (by omega), vRow_eq, hcap o ho]
    exact (wt o ho).2.2.2.2)
  rw [vRow_eq, vRow_ne _ _ (show ¬ 36 = 37 by omega), vRow_eq] at q2
  have e1 := (bears_eq w (A := A) n7 (fil (v.1 37) (nI 0) 0 4) (cpy (v.1 34) (v.1 36) 4) (fun _ => nI 0) (fun _ => nI 0) (fun o ho => fil_in (by omega)) hcap).1
  have e2 := (brs_ok (w := w) (n := nt) (A := A) (B := fun _ => nI 0) (L := fun _ => nI 0) n7 (by omega) wt).2.2.2
  have hsum : ∀ u : gV, u.1 37 = (lp (bNext w nt) A 1 (fil (v.1 37) (nI 0) 0 4, cpy (v.1 34) (v.1 36) 4, nI 0)).1 → f_X11_sumOfRow 37 4 (nI 4) u = nbr w nt A := fun u hu => by
    rw [F_X11_sumOfRow 37 4 u (by omega) (by omega), hu]
    unfold nbr
    rw [e2]
    exact sm_congr e1
  have hsp : ∀ u : gV, p_X11_sumOfRow 37 4 (nI 4) u := fun u => P_X11_sumOfRow 37 4 u (by omega) (by omega)
  refine ⟨?_, (lp (bNext w nt) A 1 (fil (v.1 37) (nI 0) 0 4, cpy (v.1 34) (v.1 36) 4, nI 0)).2.1, (lp (bNext w nt) A 1 (fil (v.1 37) (nI 0) 0 4, cpy (v.1 34) (v.1 36) 4, nI 0)).1, ?_⟩
  · simp only [p_X8_countByCoins, p_X8_countByCoins_0, p_X8_countByCoins_11, p_X8_countByCoins_19, p_X8_countByCoins_32, f_X8_countByCoins_32, Nat.reduceAdd, hpp, hcp, li_0, li_4, hfi, hfp, q1, q2, hsp, and_self]
  · simp only [f_X8_countByCoins, f_X8_countByCoins_0, f_X8_countByCoins_11, f_X8_countByCoins_19, f_X8_countByCoins_32, Nat.reduceAdd, hcp, li_0, li_4, hfi, q2]
    rw [hsum _ (cVec_3 _ _)]
    unfold cVec
    refine congrArg (Prod.mk _) ?_
    apply Prod.ext
    · funext j
      simp only [vRow_at]
      by_cases h1 : j = 37
      · subst h1
        rfl
      · by_cases h2 : j = 36
        · subst h2
          rfl
        · simp only [h1, h2, if_false]
    · rfl
theorem K_wouldBear (x : Int32) (u : gV) {w : Nat → Int32} {nt : Nat} (hu : u.1 560 = w) (h2 : w 2 = nI nt) (hn : nt ≤ 4) : p_X12_wouldBear x u ∧ (inb x (nI 1) (nI 30) = false → f_X12_wouldBear x u = (nI 0, thr u (nI 1))) ∧ ∀ A, x = nI A → A < 31 → inb x (nI 1) (nI 30) = true → (f_X12_wouldBear x u).1 = nbr w nt A ∧ Th u (f_X12_wouldBear x u).2 (nI 0) := by
  cases hx : inb x (nI 1) (nI 30) with
  | false =>
    have hI : f_X12_in x (nI 1) (nI 30) u = nI 0 := by rw [F_X12_in, hx]; rfl
    have hm : p_X12_wouldBear x u ∧ f_X12_wouldBear x u = (nI 0, thr u (nI 1)) := by
      simp only [f_X12_wouldBear_23, p_X12_wouldBear_23, f_X12_wouldBear_11, p_X12_wouldBear_11, f_X12_wouldBear_0, p_X12_wouldBear_0, f_X12_wouldBear, p_X12_wouldBear, li_0, li_1, li_30, hI, P_X12_in, F_checked, P_checked, le10, n10, if_true, if_false, reduceIte, not_false_eq_true, not_true_eq_false, false_implies, true_implies, implies_true, and_self]
    exact ⟨hm.1, fun _ => hm.2, fun A _ _ h => by cases h⟩
  | true =>
    have hb := inb_t.mp hx
    rw [tI (by omega), tI (by omega)] at hb
    obtain ⟨A, hA, rfl⟩ := nI_ofI (x := x) (m := 31) (by omega) (by omega)
    have hI : f_X12_in (nI A) (nI 1) (nI 30) u = nI 1 := by rw [F_X12_in, hx]; rfl
    obtain ⟨k1, k2⟩ := K_X12_bears (thr u (nI 0)) (n := nt) (A := A) (by rw [thr_560, hu]; exact h2) hn (by omega)
    rw [thr_560, hu, nbr_eq w A hn] at k2
    have hm : p_X12_wouldBear (nI A) u ∧ f_X12_wouldBear (nI A) u = (nbr w nt A, bVec (thr u (nI 0)) (brs w nt A ((thr u (nI 0)).1 564) ((thr u (nI 0)).1 565))) := by
      simp only [f_X12_wouldBear_23, p_X12_wouldBear_23, f_X12_wouldBear_11, p_X12_wouldBear_11, f_X12_wouldBear_0, p_X12_wouldBear_0, f_X12_wouldBear, p_X12_wouldBear, li_0, li_1, li_30, hI, P_X12_in, F_checked, P_checked, k1, k2, le00, n10, if_true, if_false, reduceIte, not_false_eq_true, not_true_eq_false, false_implies, true_implies, implies_true, and_self]
    refine ⟨hm.1, fun h => (by cases h), fun A' hA' hA2 _ => ?_⟩
    have : A' = A := by
      rw [eq_n (by omega) (by omega)] at hA'
      exact hA'.symm
    subst this
    rw [hm.2]
    refine ⟨rfl, rfl, ?_, fun j a b c => ?_⟩
    · unfold bVec
      rw [vRow_ne _ _ (by omega), vRow_ne _ _ (by omega)]
      exact (thr_Th u (nI 0)).2.1
    · unfold bVec
      rw [vRow_ne _ _ c, vRow_ne _ _ b]
      exact thr_1 u _ a
theorem Sc_row {v u : gV} (h : Sc v u) {j : Nat} (f : Nat → Int32) (h1 : j = 36 ∨ j = 37 ∨ j = 50) : Sc v (vRow u j f) := by
  refine ⟨fun i a b c d e => ?_, fun k hk => ?_, fun o k hr => ?_⟩
  · rw [vRow_ne _ _ (by omega)]
    exact h.1 i a b c d e
  · rw [vRow_ne _ _ (by omega)]
    exact h.2.1 k hk
  · rw [vRow_ne _ _ (by unfold rel at hr; omega)]
    exact h.2.2 o k hr
theorem R_borne (x : Int32) {B : Nat} : Rd (f_X11_borne x) (p_X11_borne x) (f_X12_borne x) (p_X12_borne x) eA oy1 (any Int32) B := by
  intro v np nc nt no h
  have hw := h.1
  have n7 := hw.2.2.2.2.2.2.1
  have hF := F_X11_checkedNumber x (nI 1) (nI 30) v
  have hP := P_X11_checkedNumber x (nI 1) (nI 30) v
  have hm : ∀ u : gV, u.1 560 = v.1 560 → _ := fun u hu => K_wouldBear x u (w := v.1 560) (nt := nt) hu hw.2.2.1 n7
  have hmP : ∀ u : gV, u.1 560 = v.1 560 → p_X12_borne x u := fun u hu => by
    simp only [p_X12_borne_5, p_X12_borne_0, p_X12_borne, (hm u hu).1, and_self]
  have hmF : ∀ u : gV, f_X12_borne x u = f_X12_wouldBear x u := fun u => rfl
  cases hx : inb x (nI 1) (nI 30) with
  | false =>
    have hF : f_X11_checkedNumber x (nI 1) (nI 30) v = Sum.inr "java/lang/IllegalArgumentException" := by rw [hF, hx]; rfl
    have hf : f_X11_borne x v = (Sum.inr "java/lang/IllegalArgumentException", v) := by simp only [f_X11_borne_17, f_X11_borne_14, f_X11_borne_0, f_X11_borne, li_1, li_30, hF, el_r]
    rw [hf]
    refine ⟨?_, Sc.refl v, nI 1, fun _ => ⟨rfl, rfl, fun u hu => ⟨hmP u hu, ?_⟩⟩, fun h => absurd h n10⟩
    · simp only [p_X11_borne_17, p_X11_borne_14, p_X11_borne_0, p_X11_borne, li_1, li_30, hP, hF, reduceCtorEq, false_implies, implies_true, and_self]
    · rw [hmF, (hm u hu).2.1 hx]
      exact thr_Th u _
  | true =>
    have hb := inb_t.mp hx
    rw [tI (by omega), tI (by omega)] at hb
    obtain ⟨A, hA, rfl⟩ := nI_ofI (x := x) (m := 31) (by omega) (by omega)
    have hF : f_X11_checkedNumber (nI A) (nI 1) (nI 30) v = Sum.inl (nI A) := by rw [hF, hx]; rfl
    obtain ⟨k1, L, k2⟩ := K_countByRuns h (A := A) (by omega)
    have hf : f_X11_borne (nI A) v = (Sum.inl (nbr (v.1 560) nt A), vRow v 36 L) := by simp only [f_X11_borne_17, f_X11_borne_14, f_X11_borne_0, f_X11_borne, li_1, li_30, hF, el_l, k2]
    rw [hf]
    refine ⟨?_, Sc_row (Sc.refl v) _ (Or.inl rfl), nI 0, fun h => absurd rfl h, fun _ => ⟨_, trivial, rfl, fun u hu => ⟨hmP u hu, ?_⟩⟩⟩
    · simp only [p_X11_borne_17, p_X11_borne_14, p_X11_borne_0, p_X11_borne, li_1, li_30, hP, hF, k1, Sum.inl.injEq, forall_eq', and_self]
    · rw [hmF]
      exact (hm u hu).2.2 A rfl hA hx
theorem R_borneByCoins (x : Int32) {B : Nat} : Rd (f_X11_borneByCoins x) (p_X11_borneByCoins x) (f_X12_borneByCoins x) (p_X12_borneByCoins x) eA oy1 (any Int32) B := by
  intro v np nc nt no h
  have hw := h.1
  have n7 := hw.2.2.2.2.2.2.1
  have hF := F_X11_checkedNumber x (nI 1) (nI 30) v
  have hP := P_X11_checkedNumber x (nI 1) (nI 30) v
  have hm : ∀ u : gV, u.1 560 = v.1 560 → _ := fun u hu => K_wouldBear x u (w := v.1 560) (nt := nt) hu hw.2.2.1 n7
  have hmP : ∀ u : gV, u.1 560 = v.1 560 → p_X12_borneByCoins x u := fun u hu => by
    simp only [p_X12_borneByCoins_5, p_X12_borneByCoins_0, p_X12_borneByCoins, (hm u hu).1, and_self]
  have hmF : ∀ u : gV, f_X12_borneByCoins x u = f_X12_wouldBear x u := fun u => rfl
  cases hx : inb x (nI 1) (nI 30) with
  | false =>
    have hF : f_X11_checkedNumber x (nI 1) (nI 30) v = Sum.inr "java/lang/IllegalArgumentException" := by rw [hF, hx]; rfl
    have hf : f_X11_borneByCoins x v = (Sum.inr "java/lang/IllegalArgumentException", v) := by simp only [f_X11_borneByCoins_17, f_X11_borneByCoins_14, f_X11_borneByCoins_0, f_X11_borneByCoins, li_1, li_30, hF, el_r]
    rw [hf]
    refine ⟨?_, Sc.refl v, nI 1, fun _ => ⟨rfl, rfl, fun u hu => ⟨hmP u hu, ?_⟩⟩, fun h => absurd h n10⟩
    · simp only [p_X11_borneByCoins_17, p_X11_borneByCoins_14, p_X11_borneByCoins_0, p_X11_borneByCoins, li_1, li_30, hP, hF, reduceCtorEq, false_implies, implies_true, and_self]
    · rw [hmF, (hm u hu).2.1 hx]
      exact thr_Th u _
  | true =>
    have hb := inb_t.mp hx
    rw [tI (by omega), tI (by omega)] at hb
    obtain ⟨A, hA, rfl⟩ := nI_ofI (x := x) (m := 31) (by omega) (by omega)
    have hF : f_X11_checkedNumber (nI A) (nI 1) (nI 30) v = Sum.inl (nI A) := by rw [hF, hx]; rfl
    obtain ⟨k1, L, P, k2⟩ := K_countByCoins h (A := A) (by omega)
    have hf : f_X11_borneByCoins (nI A) v = (Sum.inl (nbr (v.1 560) nt A), vRow (vRow v 36 L) 37 P) := by simp only [f_X11_borneByCoins_17, f_X11_borneByCoins_14, f_X11_borneByCoins_0, f_X11_borneByCoins, li_1, li_30, hF, el_l, k2]
    rw [hf]
    refine ⟨?_, Sc_row (Sc_row (Sc.refl v) _ (Or.inl rfl)) _ (Or.inr (Or.inl rfl)), nI 0, fun h => absurd rfl h, fun _ => ⟨_, trivial, rfl, fun u hu => ⟨hmP u hu, ?_⟩⟩⟩
    · simp only [p_X11_borneByCoins_17, p_X11_borneByCoins_14, p_X11_borneByCoins_0, p_X11_borneByCoins, li_1, li_30, hP, hF, k1, Sum.inl.injEq, forall_eq', and_self]
    · rw [hmF]
      exact (hm u hu).2.2 A rfl hA hx
