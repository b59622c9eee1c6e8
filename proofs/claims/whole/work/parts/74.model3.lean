/-! the reference: claims -/
/-- one coin: who bears it; (borne, left, sum) -/
def bFit (w : Nat → Int32) (L : Nat → Int32) (c : Nat) : Nat → Bool := fun o => !decide (nI c ≤ w (216 + 4 * o)) && (!decide (w (216 + 4 * o) + w (216 + 4 * o + 1) < nI c) && !decide (L o = nI 0))
abbrev bSt : Type := (Nat → Int32) × (Nat → Int32) × Int32
def bTake (s : bSt) (o : Nat) : bSt := (upd s.1 o (s.1 o + nI 1), upd s.2.1 o (s.2.1 o - nI 1), s.2.2 + nI 1)
def bNext (w : Nat → Int32) (n : Nat) (c : Nat) (s : bSt) : bSt := (ff (bFit w s.2.1 c) n 0).elim s fun o => bTake s o
def bInit (w : Nat → Int32) (n : Nat) (B L : Nat → Int32) : bSt := (fil B (nI 0) 0 4, fun o => if o < 4 then (if o < n then w (216 + 4 * o + 2) else nI 0) else L o, nI 0)
def bVec (v : gV) (s : bSt) : gV := vRow (vRow v 564 s.1) 565 s.2.1
theorem bVec_row (v : gV) (s : bSt) (f g : Nat → Int32) : vRow (vRow (bVec v s) 564 f) 565 g = bVec v (f, g, s.2.2) := by
  unfold bVec
  apply Prod.ext
  · funext a
    simp only [vRow_at]
    by_cases h1 : a = 565
    · rw [if_pos h1, if_pos h1]
    · rw [if_neg h1, if_neg h1, if_neg h1]
      by_cases h2 : a = 564
      · rw [if_pos h2, if_pos h2]
      · rw [if_neg h2, if_neg h2, if_neg h2]
  · rfl
theorem bVec_560 (v : gV) (s : bSt) : (bVec v s).1 560 = v.1 560 := by
  unfold bVec
  rw [vRow_ne _ _ (by omega), vRow_ne _ _ (by omega)]
theorem bVec_564 (v : gV) (s : bSt) : (bVec v s).1 564 = s.1 := by
  unfold bVec
  rw [vRow_ne _ _ (by omega), vRow_eq]
theorem bVec_565 (v : gV) (s : bSt) : (bVec v s).1 565 = s.2.1 := by
  unfold bVec
  rw [vRow_eq]
theorem L_X12_bears3 (K : Int32 → Int32 → Int32 → gV → Int32 × gV) (PK : Int32 → Int32 → Int32 → gV → Prop) (x1 : Int32) (v : gV) {n c : Nat} (h2 : v.1 560 2 = nI n) (hn : n ≤ 4) (s : bSt) (r : bSt)
    (hp : PK x1 r.2.2 (nI c + 1) (bVec v r)) : ∀ (m i fuel : Nat), i + m = n → m < fuel → (ff (bFit (v.1 560) s.2.1 c) m i).elim s (fun o => bTake s o) = r → p_X12_bears_56 K PK fuel x1 s.2.2 (nI c) (nI i) (bVec v s) ∧ f_X12_bears_56 K fuel x1 s.2.2 (nI c) (nI i) (bVec v s) = K x1 r.2.2 (nI c + 1) (bVec v r) := by
  intro m
  induction m with
  | zero =>
    intro i fuel hk hf he
    obtain ⟨f, rfl⟩ := fuel_s hf
    have hc : nI n ≤ nI i := nI_le (by omega) (by omega)
    have he : s = r := he
    subst he
    rw [p_X12_bears_56, f_X12_bears_56, li_2, cl_n (by omega), bVec_560, h2, if_pos hc]
    simp only [f_X12_bears_144, p_X12_bears_144]
    exact ⟨⟨fun _ => hp, fun h => absurd hc h⟩, trivial⟩
  | succ m ih =>
    intro i fuel hk hf he
    obtain ⟨f, rfl⟩ := fuel_s hf
    have hc : ¬ nI n ≤ nI i := nI_ge (by omega) (by omega)
    rw [ff_s] at he
    have h0 : f_X12_t (nI i) (nI 0) (bVec v s) = v.1 560 (216 + 4 * i) := by rw [F_X12_t _ (by omega), bVec_560, Nat.add_zero]
    have h1 : f_X12_t (nI i) (nI 1) (bVec v s) = v.1 560 (216 + 4 * i + 1) := by rw [F_X12_t _ (by omega), bVec_560]
    have q0 := P_X12_t (bVec v s) (k := i) (o := 0) (by omega)
    have q1 := P_X12_t (bVec v s) (k := i) (o := 1) (by omega)
    rw [p_X12_bears_56, f_X12_bears_56, li_2, cl_n (by omega), bVec_560, h2, if_neg hc]
    simp only [li_0, li_1, li_2, li_3, li_4, li_5, li_6, li_7, li_8, li_9, li_10, li_11, li_12, li_29, li_30, li_32, li_33, li_35, li_42, li_43, li_45, li_47, li_48, li_50, li_57, li_58, li_59, li_60, li_61, li_63, li_64, li_67, li_68, li_72, li_78, li_79, li_80, li_97, li_99, li_100, li_101, li_102, li_103, li_105, li_108, li_109, li_110, li_111, li_112, li_114, li_115, li_116, li_117, li_118, li_119, li_120, li_121, li_126, li_216, li_232, li_240, li_264, li_300, li_1000, li_1000000, li_2147483647, h0, h1, q0, q1, cl_n (show i < 2147483648 by omega), bVec_565, bVec_564]
    by_cases a1 : nI c ≤ v.1 560 (216 + 4 * i)
    · have hi := ih (i + 1) f (by omega) (by omega) (by rw [if_neg (by unfold bFit; rw [decide_eq_true a1]; exact Bool.false_ne_true)] at he; exact he)
      simp only [a1, hc, if_true, not_true_eq_false, not_false_eq_true, true_implies, false_implies, true_and, and_true, f_X12_bears_138, p_X12_bears_138, nI_1]
      exact hi
    · by_cases a2 : v.1 560 (216 + 4 * i) + v.1 560 (216 + 4 * i + 1) < nI c
      · have hi := ih (i + 1) f (by omega) (by omega) (by rw [if_neg (by unfold bFit; rw [decide_eq_true a2, Bool.not_true, Bool.false_and, Bool.and_false]; exact Bool.false_ne_true)] at he; exact he)
        simp only [a1, a2, hc, if_true, if_false, not_true_eq_false, not_false_eq_true, true_implies, false_implies, true_and, and_true, f_X12_bears_138, p_X12_bears_138, nI_1]
        exact hi
      · by_cases a3 : s.2.1 i = nI 0
        · have hi := ih (i + 1) f (by omega) (by omega) (by rw [if_neg (by unfold bFit; rw [decide_eq_true a3, Bool.not_true, Bool.and_false, Bool.and_false]; exact Bool.false_ne_true)] at he; exact he)
          have h4 : vp_in (nI i) 4 := vi_n (by omega) (by omega)
          simp only [a1, a2, a3, h4, hc, if_true, if_false, not_true_eq_false, not_false_eq_true, true_implies, false_implies, true_and, and_true, f_X12_bears_138, p_X12_bears_138, nI_1]
          exact hi
        · have hr : bTake s i = r := by
            rw [if_pos (by unfold bFit; rw [decide_eq_false a1, decide_eq_false a2, decide_eq_false a3]; rfl)] at he
            exact he
          subst hr
          have h4 : vp_in (nI i) 4 := vi_n (by omega) (by omega)
          have hv : vM (vM (bVec v s) 564 i (s.1 i + nI 1)) 565 i ((vM (bVec v s) 564 i (s.1 i + nI 1)).1 565 i - nI 1) = bVec v (bTake s i) := by
            rw [vM_rw, vM_rw, vRow_ne _ _ (by omega), bVec_564, bVec_565, bVec_row]
            rfl
          simp only [a1, a2, a3, h4, hc, if_true, if_false, not_true_eq_false, not_false_eq_true, true_implies, false_implies, true_and, and_true, f_X12_bears_121, p_X12_bears_121, f_X12_bears_132, p_X12_bears_132, f_X12_bears_144, p_X12_bears_144, li_0, li_1, li_2, li_3, li_4, li_5, li_6, li_7, li_8, li_9, li_10, li_11, li_12, li_29, li_30, li_32, li_33, li_35, li_42, li_43, li_45, li_47, li_48, li_50, li_57, li_58, li_59, li_60, li_61, li_63, li_64, li_67, li_68, li_72, li_78, li_79, li_80, li_97, li_99, li_100, li_101, li_102, li_103, li_105, li_108, li_109, li_110, li_111, li_112, li_114, li_115, li_116, li_117, li_118, li_119, li_120, li_121, li_126, li_216, li_232, li_240, li_264, li_300, li_1000, li_1000000, li_2147483647, cl_n (show i < 2147483648 by omega), hv]
          exact ⟨hp, rfl⟩
theorem L_X12_bears2 (v : gV) {n A : Nat} (h2 : v.1 560 2 = nI n) (hn : n ≤ 4) (hA : A < 4000) : ∀ (m c fuel : Nat) (s : bSt), c + m = A + 1 → m < fuel → p_X12_bears_48 fuel (nI A) s.2.2 (nI c) (bVec v s) ∧ f_X12_bears_48 fuel (nI A) s.2.2 (nI c) (bVec v s) = ((lp (bNext (v.1 560) n) m c s).2.2, bVec v (lp (bNext (v.1 560) n) m c s)) := by
  intro m
  induction m with
  | zero =>
    intro c fuel s hk hf
    obtain ⟨f, rfl⟩ := fuel_s hf
    have hc : nI A < nI c := nI_lt (by omega) (by omega)
    rw [p_X12_bears_48, f_X12_bears_48, if_pos hc]
    exact ⟨⟨fun _ => trivial, fun h => absurd hc h⟩, rfl⟩
  | succ m ih =>
    intro c fuel s hk hf
    obtain ⟨f, rfl⟩ := fuel_s hf
    have hc : ¬ nI A < nI c := nI_nlt (by omega) (by omega)
    have hi := ih (c + 1) f (bNext (v.1 560) n c s) (by omega) (by omega)
    have h3 := L_X12_bears3 (fun x1 x2 x3 v => f_X12_bears_48 f x1 x2 x3 v) (fun x1 x2 x3 v => p_X12_bears_48 f x1 x2 x3 v) (nI A) v (c := c) h2 hn s (bNext (v.1 560) n c s) (by rw [nI_1]; exact hi.1) n 0 5000 (by omega) (by omega) rfl
    rw [p_X12_bears_48, f_X12_bears_48, if_neg hc, lp_s, li_0]
    refine ⟨⟨fun h => absurd h hc, fun _ => h3.1⟩, h3.2.trans ?_⟩
    rw [nI_1]
    exact hi.2
theorem L_X12_bears1 (v : gV) {n A : Nat} (h2 : v.1 560 2 = nI n) (hn : n ≤ 4) (hA : A < 4000) : ∀ (m i fuel : Nat) (B L : Nat → Int32), i + m = 4 → m < fuel → p_X12_bears_4 fuel (nI A) (nI 0) (nI i) (bVec v (B, L, nI 0)) ∧ f_X12_bears_4 fuel (nI A) (nI 0) (nI i) (bVec v (B, L, nI 0)) = ((lp (bNext (v.1 560) n) A 1 (fil B (nI 0) i 4, (fun o => if i ≤ o ∧ o < 4 then (if o < n then v.1 560 (216 + 4 * o + 2) else nI 0) else L o), nI 0)).2.2, bVec v (lp (bNext (v.1 560) n) A 1 (fil B (nI 0) i 4, (fun o => if i ≤ o ∧ o < 4 then (if o < n then v.1 560 (216 + 4 * o + 2) else nI 0) else L o), nI 0))) := by
  intro m
  induction m with
  | zero =>
    intro i fuel B L hk hf
    obtain ⟨f, rfl⟩ := fuel_s hf
    have hc : (4 : Int32) ≤ nI i := nI_le (a := 4) (by omega) (by omega)
    have e1 : fil B (nI 0) i 4 = B := by rw [show i = 4 by omega, fil_nil]
    have e2 : (fun o => if i ≤ o ∧ o < 4 then (if o < n then v.1 560 (216 + 4 * o + 2) else nI 0) else L o) = L := by
      funext o
      exact if_neg (by omega)
    have h3 := L_X12_bears2 v h2 hn hA A 1 5000 (B, L, nI 0) (by omega) (by omega)
    rw [p_X12_bears_4, f_X12_bears_4, if_pos hc, e1, e2]
    exact ⟨⟨fun _ => h3.1, fun h => absurd hc h⟩, h3.2⟩
  | succ m ih =>
    intro i fuel B L hk hf
    obtain ⟨f, rfl⟩ := fuel_s hf
    have hc : ¬ (4 : Int32) ≤ nI i := nI_ge (b := 4) (by omega) (by omega)
    have hc' : ¬ nI 4 ≤ nI i := hc
    have hi := ih (i + 1) f (upd B i (nI 0)) (upd L i (if i < n then v.1 560 (216 + 4 * i + 2) else nI 0)) (by omega) (by omega)
    have e2 : (fun o => if i + 1 ≤ o ∧ o < 4 then (if o < n then v.1 560 (216 + 4 * o + 2) else nI 0) else upd L i (if i < n then v.1 560 (216 + 4 * i + 2) else nI 0) o) = fun o => if i ≤ o ∧ o < 4 then (if o < n then v.1 560 (216 + 4 * o + 2) else nI 0) else L o := by
      funext o
      by_cases h1 : o = i
      · subst h1
        rw [upd_eq, if_neg (show ¬ (o + 1 ≤ o ∧ o < 4) by omega), if_pos (show o ≤ o ∧ o < 4 by omega)]
      · rw [upd_ne h1]
        by_cases h3 : i + 1 ≤ o ∧ o < 4
        · rw [if_pos h3, if_pos (show i ≤ o ∧ o < 4 by omega)]
        · rw [if_neg h3, if_neg (show ¬ (i ≤ o ∧ o < 4) by omega)]
    rw [fil_s _ _ (by omega), e2] at hi
    have hu : ∀ x : Int32, vM (vM (bVec v (B, L, nI 0)) 564 i (nI 0)) 565 i x = bVec v (upd B i (nI 0), upd L i x, nI 0) := fun x => by
      rw [vM_rw, vM_rw, vRow_ne _ _ (by omega), bVec_564, bVec_565, bVec_row]
    have h4 : vp_in (nI i) 4 := vi_n (by omega) (by omega)
    have h5 : (vM (bVec v (B, L, nI 0)) 564 i (nI 0)).1 560 = v.1 560 := by
      rw [vM_rw, vRow_ne _ _ (by omega), bVec_560]
    have h6 : f_X12_isTreaty (nI i) (vM (bVec v (B, L, nI 0)) 564 i (nI 0)) = if inx (nI i) (nI n) = true then nI 1 else nI 0 := F_X12_isTreaty _ _ (by rw [h5]; exact h2) hn
    have h7 : f_X12_t (nI i) (nI 2) (vM (bVec v (B, L, nI 0)) 564 i (nI 0)) = v.1 560 (216 + 4 * i + 2) := by rw [F_X12_t _ (by omega), h5]
    have h8 := P_X12_t (vM (bVec v (B, L, nI 0)) 564 i (nI 0)) (k := i) (o := 2) (by omega)
    rw [p_X12_bears_4, f_X12_bears_4, if_neg hc, cl_n (by omega)]
    by_cases hq : i < n
    · have h9 : inx (nI i) (nI n) = true := inx_nI (by omega) hq
      simp only [hc', not_false_eq_true, false_implies, true_implies, true_and, h4, f_X12_bears_16, p_X12_bears_16, li_0, li_1, li_2, li_3, li_4, li_5, li_6, li_7, li_8, li_9, li_10, li_11, li_12, li_29, li_30, li_32, li_33, li_35, li_42, li_43, li_45, li_47, li_48, li_50, li_57, li_58, li_59, li_60, li_61, li_63, li_64, li_67, li_68, li_72, li_78, li_79, li_80, li_97, li_99, li_100, li_101, li_102, li_103, li_105, li_108, li_109, li_110, li_111, li_112, li_114, li_115, li_116, li_117, li_118, li_119, li_120, li_121, li_126, li_216, li_232, li_240, li_264, li_300, li_1000, li_1000000, li_2147483647, P_X12_isTreaty, h6, h9, if_true, n10, if_false, h7, h8, f_X12_bears_39, p_X12_bears_39, f_X12_bears_40, p_X12_bears_40, cl_n (show i < 2147483648 by omega), hu, nI_add]
      rw [if_pos hq] at hi
      exact hi
    · have h9 : inx (nI i) (nI n) = false := by
        rw [← Bool.not_eq_true, inx_t, tI (by omega), tI (by omega)]
        omega
      simp only [hc', not_false_eq_true, not_true_eq_false, false_implies, true_implies, true_and, and_true, h4, f_X12_bears_16, p_X12_bears_16, li_0, li_1, li_2, li_3, li_4, li_5, li_6, li_7, li_8, li_9, li_10, li_11, li_12, li_29, li_30, li_32, li_33, li_35, li_42, li_43, li_45, li_47, li_48, li_50, li_57, li_58, li_59, li_60, li_61, li_63, li_64, li_67, li_68, li_72, li_78, li_79, li_80, li_97, li_99, li_100, li_101, li_102, li_103, li_105, li_108, li_109, li_110, li_111, li_112, li_114, li_115, li_116, li_117, li_118, li_119, li_120, li_121, li_126, li_216, li_232, li_240, li_264, li_300, li_1000, li_1000000, li_2147483647, P_X12_isTreaty, h6, h9, Bool.false_eq_true, if_true, if_false, f_X12_bears_39, p_X12_bears_39, f_X12_bears_40, p_X12_bears_40, cl_n (show i < 2147483648 by omega), hu, nI_add]
      rw [if_neg hq] at hi
      exact hi
/-- what the treaties would bear of A coins: (borne, left, sum) -/
def brs (w : Nat → Int32) (n A : Nat) (B L : Nat → Int32) : bSt := lp (bNext w n) A 1 (bInit w n B L)
theorem K_X12_bears (v : gV) {n A : Nat} (h2 : v.1 560 2 = nI n) (hn : n ≤ 4) (hA : A < 4000) : p_X12_bears (nI A) v ∧ f_X12_bears (nI A) v = ((brs (v.1 560) n A (v.1 564) (v.1 565)).2.2, bVec v (brs (v.1 560) n A (v.1 564) (v.1 565))) := by
  have h := L_X12_bears1 v h2 hn hA 4 0 5000 (v.1 564) (v.1 565) (by omega) (by omega)
  have e : bVec v (v.1 564, v.1 565, nI 0) = v := by
    unfold bVec
    rw [vRow_self]
    exact vRow_self v 565
  have e2 : (fun o => if 0 ≤ o ∧ o < 4 then (if o < n then v.1 560 (216 + 4 * o + 2) else nI 0) else v.1 565 o) = fun o => if o < 4 then (if o < n then v.1 560 (216 + 4 * o + 2) else nI 0) else v.1 565 o := by
    funext o
    simp only [Nat.zero_le, true_and]
  rw [e, e2] at h
  simp only [f_X12_bears_144, p_X12_bears_144, f_X12_bears_138, p_X12_bears_138, f_X12_bears_132, p_X12_bears_132, f_X12_bears_121, p_X12_bears_121, f_X12_bears_40, p_X12_bears_40, f_X12_bears_39, p_X12_bears_39, f_X12_bears_16, p_X12_bears_16, f_X12_bears_0, p_X12_bears_0, f_X12_bears, p_X12_bears, li_0, li_1, li_2, li_3, li_4, li_5, li_6, li_7, li_8, li_9, li_10, li_11, li_12, li_29, li_30, li_32, li_33, li_35, li_42, li_43, li_45, li_47, li_48, li_50, li_57, li_58, li_59, li_60, li_61, li_63, li_64, li_67, li_68, li_72, li_78, li_79, li_80, li_97, li_99, li_100, li_101, li_102, li_103, li_105, li_108, li_109, li_110, li_111, li_112, li_114, li_115, li_116, li_117, li_118, li_119, li_120, li_121, li_126, li_216, li_232, li_240, li_264, li_300, li_1000, li_1000000, li_2147483647]
  exact h
