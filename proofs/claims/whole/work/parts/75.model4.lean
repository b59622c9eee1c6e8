/-! the reference: claims made, paid, removed; offers; days -/
def ded (c d : Int32) : Int32 := if c = nI 103 then nI 2 else if c = nI 114 then nI 0 else if c = nI 119 then (d + nI 9) / nI 10 else d / nI 4 + nI 1
theorem F_X12_deductible (c d : Int32) (v : gV) : f_X12_deductible c d v = ded c d := by
  simp only [f_X12_deductible_0, f_X12_deductible, li_0, li_1, li_2, li_3, li_4, li_5, li_6, li_7, li_8, li_9, li_10, li_11, li_12, li_29, li_30, li_32, li_33, li_35, li_42, li_43, li_45, li_47, li_48, li_50, li_57, li_58, li_59, li_60, li_61, li_63, li_64, li_67, li_68, li_72, li_78, li_79, li_80, li_97, li_99, li_100, li_101, li_102, li_103, li_105, li_108, li_109, li_110, li_111, li_112, li_114, li_115, li_116, li_117, li_118, li_119, li_120, li_121, li_126, li_216, li_232, li_240, li_264, li_300, li_1000, li_1000000, li_2147483647, ded]
  rfl
theorem P_X12_deductible (c d : Int32) (v : gV) : p_X12_deductible c d v := by
  simp only [p_X12_deductible_0, p_X12_deductible, implies_true, and_self]
def amo (w : Nat → Int32) (k : Nat) (c d : Int32) : Int32 := if d - ded c d ≤ w (8 + 8 * k + 1) - w (8 + 8 * k + 6) then d - ded c d else w (8 + 8 * k + 1) - w (8 + 8 * k + 6)
theorem F_X12_amountFor (c d : Int32) (v : gV) {k : Nat} (hk : k < 30) : f_X12_amountFor (nI k) c d v = amo (v.1 560) k c d := by
  simp (disch := omega) only [f_X12_amountFor_39, f_X12_amountFor_0, f_X12_amountFor, F_X12_deductible, li_0, li_1, li_2, li_3, li_4, li_5, li_6, li_7, li_8, li_9, li_10, li_11, li_12, li_29, li_30, li_32, li_33, li_35, li_42, li_43, li_45, li_47, li_48, li_50, li_57, li_58, li_59, li_60, li_61, li_63, li_64, li_67, li_68, li_72, li_78, li_79, li_80, li_97, li_99, li_100, li_101, li_102, li_103, li_105, li_108, li_109, li_110, li_111, li_112, li_114, li_115, li_116, li_117, li_118, li_119, li_120, li_121, li_126, li_216, li_232, li_240, li_264, li_300, li_1000, li_1000000, li_2147483647, F_X12_p, amo]
theorem P_X12_amountFor (c d : Int32) (v : gV) {k : Nat} (hk : k < 30) : p_X12_amountFor (nI k) c d v := by
  simp (disch := omega) only [p_X12_amountFor_39, p_X12_amountFor_0, p_X12_amountFor, P_X12_deductible, li_0, li_1, li_2, li_3, li_4, li_5, li_6, li_7, li_8, li_9, li_10, li_11, li_12, li_29, li_30, li_32, li_33, li_35, li_42, li_43, li_45, li_47, li_48, li_50, li_57, li_58, li_59, li_60, li_61, li_63, li_64, li_67, li_68, li_72, li_78, li_79, li_80, li_97, li_99, li_100, li_101, li_102, li_103, li_105, li_108, li_109, li_110, li_111, li_112, li_114, li_115, li_116, li_117, li_118, li_119, li_120, li_121, li_126, li_216, li_232, li_240, li_264, li_300, li_1000, li_1000000, li_2147483647, P_X12_p, implies_true, and_self]
def yClm (w : Nat → Int32) (np : Nat) (x c d : Int32) : Int32 := (pol w np x).elim (nI 1) fun k => if isC c = true then (if inb d (nI 1) (nI 99) = true then (if act w k = true then (if w 1 = nI 12 then nI 3 else if nI 0 < amo w k c d then nI 0 else nI 4) else nI 3) else nI 2) else nI 2
theorem K_X12_cannotClaim (x c d : Int32) (v : gV) {np : Nat} (h0 : v.1 560 0 = nI np) (hn : np ≤ 8) : p_X12_cannotClaim x c d v ∧ f_X12_cannotClaim x c d v = yClm (v.1 560) np x c d := by
  have hF := F_X12_policy x v h0 hn
  have hP := P_X12_policy x v h0 hn
  unfold yClm
  cases e : pol (v.1 560) np x with
  | none =>
    rw [e] at hF
    simp only [f_X12_cannotClaim_31, p_X12_cannotClaim_31, f_X12_cannotClaim_53, p_X12_cannotClaim_53, f_X12_cannotClaim_71, p_X12_cannotClaim_71, f_X12_cannotClaim_0, p_X12_cannotClaim_0, f_X12_cannotClaim, p_X12_cannotClaim, hF, hP, oN_none, oN_n0, li_0, li_1, li_2, li_3, li_4, li_5, li_6, li_7, li_8, li_9, li_10, li_11, li_12, li_29, li_30, li_32, li_33, li_35, li_42, li_43, li_45, li_47, li_48, li_50, li_57, li_58, li_59, li_60, li_61, li_63, li_64, li_67, li_68, li_72, li_78, li_79, li_80, li_97, li_99, li_100, li_101, li_102, li_103, li_105, li_108, li_109, li_110, li_111, li_112, li_114, li_115, li_116, li_117, li_118, li_119, li_120, li_121, li_126, li_216, li_232, li_240, li_264, li_300, li_1000, li_1000000, li_2147483647, if_false, not_false_eq_true, false_implies, implies_true, and_self, Option.elim]
  | some k =>
    have hk := pol_lt e
    have hs : nI 0 ≤ nI k := nI_pos' (by omega)
    rw [e] at hF
    have hF2 : f_X12_policy x v = nI k := hF
    have a1 := F_X12_isActiveAt v (k := k) (by omega)
    have a2 := P_X12_isActiveAt v (k := k) (by omega)
    have a3 := F_X12_amountFor c d v (k := k) (by omega)
    have a4 := P_X12_amountFor c d v (k := k) (by omega)
    constructor
    · simp only [p_X12_cannotClaim_31, p_X12_cannotClaim_53, p_X12_cannotClaim_71, p_X12_cannotClaim_0, p_X12_cannotClaim, hF2, hP, a2, a4, P_X12_isCause, P_X12_in, implies_true, and_self]
    · simp (disch := omega) only [f_X12_cannotClaim_31, f_X12_cannotClaim_53, f_X12_cannotClaim_71, f_X12_cannotClaim_0, f_X12_cannotClaim, hF2, hs, if_true, a1, a3, F_X12_isCause, F_X12_in, li_0, li_1, li_2, li_3, li_4, li_5, li_6, li_7, li_8, li_9, li_10, li_11, li_12, li_29, li_30, li_32, li_33, li_35, li_42, li_43, li_45, li_47, li_48, li_50, li_57, li_58, li_59, li_60, li_61, li_63, li_64, li_67, li_68, li_72, li_78, li_79, li_80, li_97, li_99, li_100, li_101, li_102, li_103, li_105, li_108, li_109, li_110, li_111, li_112, li_114, li_115, li_116, li_117, li_118, li_119, li_120, li_121, li_126, li_216, li_232, li_240, li_264, li_300, li_1000, li_1000000, li_2147483647, nI_add, nI_mul, cl_n, vi_n, sub_n, bz, Option.elim]
      cases isC c <;> cases inb d (nI 1) (nI 99) <;> cases act (v.1 560) k <;> rfl
/-- the coins of a new claim's row; the capacities left -/
def put4 (w : Nat → Int32) (a : Nat) (B : Nat → Int32) (i e : Nat) : Nat → Int32 := fun j => if a + i ≤ j ∧ j < a + e then B (j - a) else w j
def putL (w : Nat → Int32) (L : Nat → Int32) (i e : Nat) : Nat → Int32 := lp (fun o w => upd w (216 + 4 * o + 2) (L o)) (e - i) i w
theorem put4_s (w : Nat → Int32) (a : Nat) (B : Nat → Int32) {i e : Nat} (h : i < e) : put4 (upd w (a + i) (B i)) a B (i + 1) e = put4 w a B i e := by
  funext j
  unfold put4
  rw [upd_at]
  by_cases h1 : j = a + i
  · rw [if_neg (by omega), if_pos h1, if_pos (by omega), h1, Nat.add_sub_cancel_left]
  · by_cases h2 : a + (i + 1) ≤ j ∧ j < a + e
    · rw [if_pos h2, if_pos (by omega)]
    · rw [if_neg h2, if_neg h1, if_neg (by omega)]
theorem put4_nil (w : Nat → Int32) (a : Nat) (B : Nat → Int32) (i : Nat) : put4 w a B i i = w := by
  funext j
  exact if_neg (by omega)
/-- the end of a claim's making: the policy's share, the numbers -/
def clEnd (w : Nat → Int32) (k n : Nat) (amt : Int32) : Nat → Int32 := upd (upd (upd w (8 + 8 * k + 6) (w (8 + 8 * k + 6) + amt)) 1 (nI (n + 1))) 5 (w 5 + nI 1)
theorem L_X12_claims2 (amt : Int32) {n nt k : Nat} (hk : k < 8) (hn : n < 12) (ht : nt ≤ 4) : ∀ (m i fuel : Nat) (v : gV), i + m = nt → m < fuel → v.1 560 2 = nI nt → v.1 560 1 = nI n → p_X12_claims_149 fuel (nI k) amt (nI i) v ∧ f_X12_claims_149 fuel (nI k) amt (nI i) v = (v.1 560 5, vRow v 560 (clEnd (lp (fun o w => upd w (216 + 4 * o + 2) (v.1 565 o)) m i (v.1 560)) k n amt)) := by
  intro m
  induction m with
  | zero =>
    intro i fuel v hk1 hf h2 h1
    obtain ⟨f, rfl⟩ := fuel_s hf
    have hc : nI nt ≤ nI i := nI_le (by omega) (by omega)
    rw [p_X12_claims_149, f_X12_claims_149]
    constructor
    · simp (disch := omega) only [li_0, li_1, li_2, li_3, li_4, li_5, li_6, li_7, li_8, li_9, li_10, li_11, li_12, li_29, li_30, li_32, li_33, li_35, li_42, li_43, li_45, li_47, li_48, li_50, li_57, li_58, li_59, li_60, li_61, li_63, li_64, li_67, li_68, li_72, li_78, li_79, li_80, li_97, li_99, li_100, li_101, li_102, li_103, li_105, li_108, li_109, li_110, li_111, li_112, li_114, li_115, li_116, li_117, li_118, li_119, li_120, li_121, li_126, li_216, li_232, li_240, li_264, li_300, li_1000, li_1000000, li_2147483647, nI_add, nI_mul, cl_n, vi_n, sub_n, h2, hc, true_implies, not_true_eq_false, false_implies, and_true, p_X12_claims_229, p_X12_claims_219, p_X12_claims_209, p_X12_claims_182, p_X12_claims_140, p_X12_claims_111, p_X12_claims_95, p_X12_claims_85, p_X12_claims_74, p_X12_claims_64, p_X12_claims_54, p_X12_claims_37, p_X12_claims_0, p_X12_claims]
    · simp (disch := omega) only [li_0, li_1, li_2, li_3, li_4, li_5, li_6, li_7, li_8, li_9, li_10, li_11, li_12, li_29, li_30, li_32, li_33, li_35, li_42, li_43, li_45, li_47, li_48, li_50, li_57, li_58, li_59, li_60, li_61, li_63, li_64, li_67, li_68, li_72, li_78, li_79, li_80, li_97, li_99, li_100, li_101, li_102, li_103, li_105, li_108, li_109, li_110, li_111, li_112, li_114, li_115, li_116, li_117, li_118, li_119, li_120, li_121, li_126, li_216, li_232, li_240, li_264, li_300, li_1000, li_1000000, li_2147483647, nI_add, nI_mul, cl_n, vi_n, sub_n, h2, hc, if_true, f_X12_claims_229, f_X12_claims_219, f_X12_claims_209, f_X12_claims_182, f_X12_claims_140, f_X12_claims_111, f_X12_claims_95, f_X12_claims_85, f_X12_claims_74, f_X12_claims_64, f_X12_claims_54, f_X12_claims_37, f_X12_claims_0, f_X12_claims, vM_rw, vRow_row, vRow_eq, upd_is, upd_ne, h1, lp_0, clEnd, Int32.add_sub_cancel]
  | succ m ih =>
    intro i fuel v hk1 hf h2 h1
    obtain ⟨f, rfl⟩ := fuel_s hf
    have hc : ¬ nI nt ≤ nI i := nI_ge (by omega) (by omega)
    have hi := ih (i + 1) f (vM v 560 (216 + 4 * i + 2) (v.1 565 i)) (by omega) (by omega) (by rw [vM_rw, vRow_eq, upd_ne (by omega)]; exact h2) (by rw [vM_rw, vRow_eq, upd_ne (by omega)]; exact h1)
    rw [vM_rw, vRow_row, vRow_eq, vRow_ne _ _ (by omega), upd_ne (by omega), ← vM_rw] at hi
    rw [p_X12_claims_149, f_X12_claims_149]
    simp (disch := omega) only [li_0, li_1, li_2, li_3, li_4, li_5, li_6, li_7, li_8, li_9, li_10, li_11, li_12, li_29, li_30, li_32, li_33, li_35, li_42, li_43, li_45, li_47, li_48, li_50, li_57, li_58, li_59, li_60, li_61, li_63, li_64, li_67, li_68, li_72, li_78, li_79, li_80, li_97, li_99, li_100, li_101, li_102, li_103, li_105, li_108, li_109, li_110, li_111, li_112, li_114, li_115, li_116, li_117, li_118, li_119, li_120, li_121, li_126, li_216, li_232, li_240, li_264, li_300, li_1000, li_1000000, li_2147483647, nI_add, nI_mul, cl_n, vi_n, sub_n, h2, hc, if_false, not_false_eq_true, true_implies, false_implies, true_and, f_X12_claims_182, p_X12_claims_182, lp_s]
    exact hi
theorem L_X12_claims1 (amt : Int32) {n nt k a : Nat} (hk : k < 8) (hn : n < 12) (ht : nt ≤ 4) (ha : a + 10 < 216) (ha2 : 72 ≤ a) : ∀ (m i fuel : Nat) (v : gV), i + m = 4 → m < fuel → v.1 560 2 = nI nt → v.1 560 1 = nI n → p_X12_claims_114 fuel (nI k) amt (nI a) (nI i) v ∧ f_X12_claims_114 fuel (nI k) amt (nI a) (nI i) v = (v.1 560 5, vRow v 560 (clEnd (putL (put4 (v.1 560) (a + 6) (v.1 564) i 4) (v.1 565) 0 nt) k n amt)) := by
  intro m
  induction m with
  | zero =>
    intro i fuel v hk1 hf h2 h1
    obtain ⟨f, rfl⟩ := fuel_s hf
    have hc : (4 : Int32) ≤ nI i := nI_le (a := 4) (by omega) (by omega)
    have h := L_X12_claims2 amt hk hn ht nt 0 5000 v (by omega) (by omega) h2 h1
    rw [p_X12_claims_114, f_X12_claims_114, if_pos hc, show i = 4 by omega, put4_nil]
    exact ⟨⟨fun _ => h.1, fun h => absurd (nI_le (a := 4) (b := 4) (by omega) (by omega)) h⟩, h.2⟩
  | succ m ih =>
    intro i fuel v hk1 hf h2 h1
    obtain ⟨f, rfl⟩ := fuel_s hf
    have hc : ¬ (4 : Int32) ≤ nI i := nI_ge (b := 4) (by omega) (by omega)
    have hi := ih (i + 1) f (vM v 560 (a + 6 + i) (v.1 564 i)) (by omega) (by omega) (by rw [vM_rw, vRow_eq, upd_ne (by omega)]; exact h2) (by rw [vM_rw, vRow_eq, upd_ne (by omega)]; exact h1)
    rw [vM_rw, vRow_row, vRow_eq, vRow_ne _ _ (by omega), vRow_ne _ _ (by omega), put4_s _ _ _ (by omega), upd_ne (by omega), ← vM_rw] at hi
    rw [p_X12_claims_114, f_X12_claims_114, if_neg hc]
    have hc' : ¬ (nI 4 : Int32) ≤ nI i := hc
    simp (disch := omega) only [li_0, li_1, li_2, li_3, li_4, li_5, li_6, li_7, li_8, li_9, li_10, li_11, li_12, li_29, li_30, li_32, li_33, li_35, li_42, li_43, li_45, li_47, li_48, li_50, li_57, li_58, li_59, li_60, li_61, li_63, li_64, li_67, li_68, li_72, li_78, li_79, li_80, li_97, li_99, li_100, li_101, li_102, li_103, li_105, li_108, li_109, li_110, li_111, li_112, li_114, li_115, li_116, li_117, li_118, li_119, li_120, li_121, li_126, li_216, li_232, li_240, li_264, li_300, li_1000, li_1000000, li_2147483647, nI_add, nI_mul, cl_n, vi_n, sub_n, hc', not_false_eq_true, true_implies, false_implies, true_and, f_X12_claims_140, p_X12_claims_140]
    exact hi
/-- a new claim: A coins of the policy at place k -/
def mClm (w : Nat → Int32) (n nt k A : Nat) (x c : Int32) (b : bSt) : Nat → Int32 := clEnd (putL (put4 (upd (upd (upd (upd (upd (upd w (72 + 12 * n + 0) (w 5)) (72 + 12 * n + 1) x) (72 + 12 * n + 2) c) (72 + 12 * n + 3) (nI A)) (72 + 12 * n + 4) (nI 0)) (72 + 12 * n + 5) (w 6)) (72 + 12 * n + 6) b.1 0 4) b.2.1 0 nt) k n (nI A)
theorem K_X12_claims (x c d : Int32) (v : gV) {np n nt k A : Nat} (h0 : v.1 560 0 = nI np) (hn : np ≤ 8) (h1 : v.1 560 1 = nI n) (hc : n < 12) (h2 : v.1 560 2 = nI nt) (ht : nt ≤ 4) (he : pol (v.1 560) np x = some k) (hA : amo (v.1 560) k c d = nI A) (hA2 : A < 4000) : p_X12_claims x c d v ∧ f_X12_claims x c d v = (v.1 560 5, vRow (bVec v (brs (v.1 560) nt A (v.1 564) (v.1 565))) 560 (mClm (v.1 560) n nt k A x c (brs (v.1 560) nt A (v.1 564) (v.1 565)))) := by
  have hk := pol_lt he
  have hF : f_X12_policy x v = nI k := by rw [F_X12_policy x v h0 hn, he]; rfl
  have hP := P_X12_policy x v h0 hn
  have a3 : f_X12_amountFor (nI k) c d v = nI A := by rw [F_X12_amountFor c d v (by omega), hA]
  have a4 := P_X12_amountFor c d v (k := k) (by omega)
  have hb := K_X12_bears v (A := A) h2 ht hA2
  generalize brs (v.1 560) nt A (v.1 564) (v.1 565) = b at hb ⊢
  have e0 : (bVec v b).1 560 = v.1 560 := bVec_560 v b
  have e4 : (bVec v b).1 564 = b.1 := bVec_564 v b
  have e5 : (bVec v b).1 565 = b.2.1 := bVec_565 v b
  generalize bVec v b = u at hb e0 e4 e5 ⊢
  have hm := L_X12_claims1 (nI A) (n := n) (nt := nt) (k := k) (a := 72 + 12 * n) (by omega) hc ht (by omega) (by omega) 4 0 5000 (vRow u 560 (upd (upd (upd (upd (upd (upd (v.1 560) (72 + 12 * n + 0) (v.1 560 5)) (72 + 12 * n + 1) x) (72 + 12 * n + 2) c) (72 + 12 * n + 3) (nI A)) (72 + 12 * n + 4) (nI 0)) (72 + 12 * n + 5) (v.1 560 6))) (by omega) (by omega) (by simp (disch := omega) only [vRow_eq, upd_ne]; exact h2) (by simp (disch := omega) only [vRow_eq, upd_ne]; exact h1)
  simp (disch := omega) only [vRow_eq, vRow_ne, vRow_row, upd_ne, e4, e5] at hm
  unfold mClm
  constructor
  · simp (disch := omega) only [p_X12_claims_229, p_X12_claims_219, p_X12_claims_209, p_X12_claims_182, p_X12_claims_140, p_X12_claims_111, p_X12_claims_95, p_X12_claims_85, p_X12_claims_74, p_X12_claims_64, p_X12_claims_54, p_X12_claims_37, p_X12_claims_0, p_X12_claims, hF, hP, a3, a4, hb, true_and, li_0, li_1, li_2, li_3, li_4, li_5, li_6, li_7, li_8, li_9, li_10, li_11, li_12, li_29, li_30, li_32, li_33, li_35, li_42, li_43, li_45, li_47, li_48, li_50, li_57, li_58, li_59, li_60, li_61, li_63, li_64, li_67, li_68, li_72, li_78, li_79, li_80, li_97, li_99, li_100, li_101, li_102, li_103, li_105, li_108, li_109, li_110, li_111, li_112, li_114, li_115, li_116, li_117, li_118, li_119, li_120, li_121, li_126, li_216, li_232, li_240, li_264, li_300, li_1000, li_1000000, li_2147483647, nI_add, nI_mul, cl_n, vi_n, sub_n, h1, e0, vM_rw, vRow_row, vRow_eq, upd_ne, upd_is]
    exact hm.1
  · simp (disch := omega) only [f_X12_claims_229, f_X12_claims_219, f_X12_claims_209, f_X12_claims_182, f_X12_claims_140, f_X12_claims_111, f_X12_claims_95, f_X12_claims_85, f_X12_claims_74, f_X12_claims_64, f_X12_claims_54, f_X12_claims_37, f_X12_claims_0, f_X12_claims, hF, a3, hb.2, li_0, li_1, li_2, li_3, li_4, li_5, li_6, li_7, li_8, li_9, li_10, li_11, li_12, li_29, li_30, li_32, li_33, li_35, li_42, li_43, li_45, li_47, li_48, li_50, li_57, li_58, li_59, li_60, li_61, li_63, li_64, li_67, li_68, li_72, li_78, li_79, li_80, li_97, li_99, li_100, li_101, li_102, li_103, li_105, li_108, li_109, li_110, li_111, li_112, li_114, li_115, li_116, li_117, li_118, li_119, li_120, li_121, li_126, li_216, li_232, li_240, li_264, li_300, li_1000, li_1000000, li_2147483647, nI_add, nI_mul, cl_n, vi_n, sub_n, h1, e0, vM_rw, vRow_row, vRow_eq, upd_ne, upd_is]
    exact hm.2
/-! pay -/
theorem L_X12_borneOf (v : gV) {k : Nat} (hk : k < 15) : ∀ (m i fuel : Nat) (a : Int32), i + m = 4 → m < fuel → p_X12_borneOf_4 fuel (nI k) a (nI i) v ∧ f_X12_borneOf_4 fuel (nI k) a (nI i) v = lp (fun i a => a + v.1 560 (72 + 12 * k + (6 + i))) m i a := by
  intro m
  induction m with
  | zero =>
    intro i fuel a hk1 hf
    obtain ⟨f, rfl⟩ := fuel_s hf
    have hc : (4 : Int32) ≤ nI i := nI_le (a := 4) (by omega) (by omega)
    rw [p_X12_borneOf_4, f_X12_borneOf_4, if_pos hc]
    exact ⟨⟨fun _ => trivial, fun h => absurd hc h⟩, rfl⟩
  | succ m ih =>
    intro i fuel a hk1 hf
    obtain ⟨f, rfl⟩ := fuel_s hf
    have hc : ¬ (4 : Int32) ≤ nI i := nI_ge (b := 4) (by omega) (by omega)
    have hi := ih (i + 1) f (a + v.1 560 (72 + 12 * k + (6 + i))) (by omega) (by omega)
    rw [p_X12_borneOf_4, f_X12_borneOf_4, if_neg hc, li_6, nI_add, F_X12_c v (by omega), nI_1, lp_s]
    exact ⟨⟨fun h => absurd h hc, fun _ => ⟨P_X12_c v (by omega), hi.1⟩⟩, hi.2⟩
/-- the coins of the claim k that treaties bear -/
def bor (w : Nat → Int32) (k : Nat) : Int32 := sm (fun i => w (72 + 12 * k + (6 + i))) 4
theorem F_X12_borneOf (v : gV) {k : Nat} (hk : k < 15) : f_X12_borneOf (nI k) v = bor (v.1 560) k := (L_X12_borneOf v hk 4 0 5000 (nI 0) (by omega) (by omega)).2
theorem P_X12_borneOf (v : gV) {k : Nat} (hk : k < 15) : p_X12_borneOf (nI k) v := (L_X12_borneOf v hk 4 0 5000 (nI 0) (by omega) (by omega)).1
def rcv (w : Nat → Int32) (k : Nat) : Int32 := bor w k * w (72 + 12 * k + 4) / w (72 + 12 * k + 3)
theorem F_X12_recoveredOf (v : gV) {k : Nat} (hk : k < 15) : f_X12_recoveredOf (nI k) v = rcv (v.1 560) k := by
  simp (disch := omega) only [f_X12_recoveredOf_0, f_X12_recoveredOf, F_X12_borneOf, F_X12_c, li_0, li_1, li_2, li_3, li_4, li_5, li_6, li_7, li_8, li_9, li_10, li_11, li_12, li_29, li_30, li_32, li_33, li_35, li_42, li_43, li_45, li_47, li_48, li_50, li_57, li_58, li_59, li_60, li_61, li_63, li_64, li_67, li_68, li_72, li_78, li_79, li_80, li_97, li_99, li_100, li_101, li_102, li_103, li_105, li_108, li_109, li_110, li_111, li_112, li_114, li_115, li_116, li_117, li_118, li_119, li_120, li_121, li_126, li_216, li_232, li_240, li_264, li_300, li_1000, li_1000000, li_2147483647, rcv]
theorem P_X12_recoveredOf (v : gV) {k : Nat} (hk : k < 15) (h : ¬ v.1 560 (72 + 12 * k + 3) = nI 0) : p_X12_recoveredOf (nI k) v := by
  simp (disch := omega) only [p_X12_recoveredOf_0, p_X12_recoveredOf, P_X12_borneOf, P_X12_c, F_X12_c, li_0, li_1, li_2, li_3, li_4, li_5, li_6, li_7, li_8, li_9, li_10, li_11, li_12, li_29, li_30, li_32, li_33, li_35, li_42, li_43, li_45, li_47, li_48, li_50, li_57, li_58, li_59, li_60, li_61, li_63, li_64, li_67, li_68, li_72, li_78, li_79, li_80, li_97, li_99, li_100, li_101, li_102, li_103, li_105, li_108, li_109, li_110, li_111, li_112, li_114, li_115, li_116, li_117, li_118, li_119, li_120, li_121, li_126, li_216, li_232, li_240, li_264, li_300, li_1000, li_1000000, li_2147483647, h, not_false_eq_true, and_self]
def yPay (w : Nat → Int32) (nc : Nat) (x c : Int32) : Int32 := (clm w nc x).elim (nI 1) fun k => if inb c (nI 1) (nI 99) = true then (if c ≤ w (72 + 12 * k + 3) - w (72 + 12 * k + 4) then nI 0 else nI 3) else nI 2
theorem K_X12_cannotPay (x c : Int32) (v : gV) {nc : Nat} (h1 : v.1 560 1 = nI nc) (hn : nc ≤ 12) : p_X12_cannotPay x c v ∧ f_X12_cannotPay x c v = yPay (v.1 560) nc x c := by
  have hF := F_X12_claim x v h1 hn
  have hP := P_X12_claim x v h1 hn
  unfold yPay
  cases e : clm (v.1 560) nc x with
  | none =>
    rw [e] at hF
    simp only [f_X12_cannotPay_46, p_X12_cannotPay_46, f_X12_cannotPay_0, p_X12_cannotPay_0, f_X12_cannotPay, p_X12_cannotPay, hF, hP, oN_none, oN_n0, li_0, li_1, li_2, li_3, li_4, li_5, li_6, li_7, li_8, li_9, li_10, li_11, li_12, li_29, li_30, li_32, li_33, li_35, li_42, li_43, li_45, li_47, li_48, li_50, li_57, li_58, li_59, li_60, li_61, li_63, li_64, li_67, li_68, li_72, li_78, li_79, li_80, li_97, li_99, li_100, li_101, li_102, li_103, li_105, li_108, li_109, li_110, li_111, li_112, li_114, li_115, li_116, li_117, li_118, li_119, li_120, li_121, li_126, li_216, li_232, li_240, li_264, li_300, li_1000, li_1000000, li_2147483647, if_false, not_false_eq_true, false_implies, implies_true, and_self, Option.elim]
  | some k =>
    have hk := clm_lt e
    have hs : nI 0 ≤ nI k := nI_pos' (by omega)
    rw [e] at hF
    have hF2 : f_X12_claim x v = nI k := hF
    constructor
    · simp (disch := omega) only [p_X12_cannotPay_46, p_X12_cannotPay_0, p_X12_cannotPay, hF2, hP, P_X12_in, li_0, li_1, li_2, li_3, li_4, li_5, li_6, li_7, li_8, li_9, li_10, li_11, li_12, li_29, li_30, li_32, li_33, li_35, li_42, li_43, li_45, li_47, li_48, li_50, li_57, li_58, li_59, li_60, li_61, li_63, li_64, li_67, li_68, li_72, li_78, li_79, li_80, li_97, li_99, li_100, li_101, li_102, li_103, li_105, li_108, li_109, li_110, li_111, li_112, li_114, li_115, li_116, li_117, li_118, li_119, li_120, li_121, li_126, li_216, li_232, li_240, li_264, li_300, li_1000, li_1000000, li_2147483647, P_X12_c, implies_true, and_self]
    · simp (disch := omega) only [f_X12_cannotPay_46, f_X12_cannotPay_0, f_X12_cannotPay, hF2, hs, if_true, F_X12_in, li_0, li_1, li_2, li_3, li_4, li_5, li_6, li_7, li_8, li_9, li_10, li_11, li_12, li_29, li_30, li_32, li_33, li_35, li_42, li_43, li_45, li_47, li_48, li_50, li_57, li_58, li_59, li_60, li_61, li_63, li_64, li_67, li_68, li_72, li_78, li_79, li_80, li_97, li_99, li_100, li_101, li_102, li_103, li_105, li_108, li_109, li_110, li_111, li_112, li_114, li_115, li_116, li_117, li_118, li_119, li_120, li_121, li_126, li_216, li_232, li_240, li_264, li_300, li_1000, li_1000000, li_2147483647, F_X12_c, bz, Option.elim]
      cases inb c (nI 1) (nI 99) <;> rfl
/-- the triangle's cell of a payment, if there is one; then the row -/
def mPay (w : Nat → Int32) (k s t : Nat) (c : Int32) : Nat → Int32 := if t < 6 then upd (upd (upd w (72 + 12 * k + 4) (w (72 + 12 * k + 4) + c)) 7 (w 7 + (rcv (upd w (72 + 12 * k + 4) (w (72 + 12 * k + 4) + c)) k - rcv w k - c))) (264 + 6 * s + t - s) (w (264 + 6 * s + t - s) + c) else upd (upd w (72 + 12 * k + 4) (w (72 + 12 * k + 4) + c)) 7 (w 7 + (rcv (upd w (72 + 12 * k + 4) (w (72 + 12 * k + 4) + c)) k - rcv w k - c))
theorem bor_upd (w : Nat → Int32) {k i : Nat} (x : Int32) (h : i < 72 + 12 * k + 6 ∨ 72 + 12 * k + 10 ≤ i) : bor (upd w i x) k = bor w k := sm_congr fun o ho => upd_ne (by omega)
theorem rcv_upd (w : Nat → Int32) {k i : Nat} (x : Int32) (h : i < 72 + 12 * k + 3 ∨ 72 + 12 * k + 10 ≤ i) : rcv (upd w i x) k = rcv w k := by
  unfold rcv
  rw [bor_upd w x (by omega), upd_ne (by omega), upd_ne (by omega)]
theorem K_X12_pays (x c : Int32) (v : gV) {nc k s t : Nat} (h1 : v.1 560 1 = nI nc) (hn : nc ≤ 12) (he : clm (v.1 560) nc x = some k) (ha : ¬ v.1 560 (72 + 12 * k + 3) = nI 0) (hs : v.1 560 (72 + 12 * k + 5) / nI 10 = nI s) (ht : v.1 560 6 / nI 10 = nI t) (hst : s ≤ t) (ht2 : t < 2147483648) : p_X12_pays x c v ∧ f_X12_pays x c v = (rcv (upd (v.1 560) (72 + 12 * k + 4) (v.1 560 (72 + 12 * k + 4) + c)) k - rcv (v.1 560) k, vRow v 560 (mPay (v.1 560) k s t c)) := by
  have hk := clm_lt he
  have hF : f_X12_claim x v = nI k := by rw [F_X12_claim x v h1 hn, he]; rfl
  have hP := P_X12_claim x v h1 hn
  have hr := F_X12_recoveredOf v (k := k) (by omega)
  have hr2 := P_X12_recoveredOf v (k := k) (by omega) ha
  have hu : ∀ u : gV, u.1 560 = upd (v.1 560) (72 + 12 * k + 4) (v.1 560 (72 + 12 * k + 4) + c) → p_X12_recoveredOf (nI k) u ∧ f_X12_recoveredOf (nI k) u = rcv (upd (v.1 560) (72 + 12 * k + 4) (v.1 560 (72 + 12 * k + 4) + c)) k := fun u hu => ⟨P_X12_recoveredOf u (by omega) (by rw [hu, upd_ne (by omega)]; exact ha), by rw [F_X12_recoveredOf u (by omega), hu]⟩
  have hu1 := hu (vRow v 560 (upd (v.1 560) (72 + 12 * k + 4) (v.1 560 (72 + 12 * k + 4) + c))) (vRow_eq _ _ _)
  unfold mPay
  by_cases h6 : t < 6
  · have h7 : ¬ nI 6 ≤ nI t := nI_ge h6 (by omega)
    constructor
    · simp (disch := omega) only [p_X12_pays_113, p_X12_pays_55, p_X12_pays_31, p_X12_pays_0, p_X12_pays, hF, hP, hr, hr2, li_0, li_1, li_2, li_3, li_4, li_5, li_6, li_7, li_8, li_9, li_10, li_11, li_12, li_29, li_30, li_32, li_33, li_35, li_42, li_43, li_45, li_47, li_48, li_50, li_57, li_58, li_59, li_60, li_61, li_63, li_64, li_67, li_68, li_72, li_78, li_79, li_80, li_97, li_99, li_100, li_101, li_102, li_103, li_105, li_108, li_109, li_110, li_111, li_112, li_114, li_115, li_116, li_117, li_118, li_119, li_120, li_121, li_126, li_216, li_232, li_240, li_264, li_300, li_1000, li_1000000, li_2147483647, nI_add, nI_mul, cl_n, vi_n, sub_n, vM_rw, vRow_row, vRow_eq, hu1, true_and, P_X12_c, F_X12_c, upd_ne, upd_is, hs, ht, h7, not_false_eq_true, false_implies, true_implies, and_self]
    · simp (disch := omega) only [f_X12_pays_113, f_X12_pays_55, f_X12_pays_31, f_X12_pays_0, f_X12_pays, hF, hr, li_0, li_1, li_2, li_3, li_4, li_5, li_6, li_7, li_8, li_9, li_10, li_11, li_12, li_29, li_30, li_32, li_33, li_35, li_42, li_43, li_45, li_47, li_48, li_50, li_57, li_58, li_59, li_60, li_61, li_63, li_64, li_67, li_68, li_72, li_78, li_79, li_80, li_97, li_99, li_100, li_101, li_102, li_103, li_105, li_108, li_109, li_110, li_111, li_112, li_114, li_115, li_116, li_117, li_118, li_119, li_120, li_121, li_126, li_216, li_232, li_240, li_264, li_300, li_1000, li_1000000, li_2147483647, nI_add, nI_mul, cl_n, vi_n, sub_n, vM_rw, vRow_row, vRow_eq, hu1, F_X12_c, upd_ne, upd_is, hs, ht, h7, if_false, if_pos h6]
  · have h7 : nI 6 ≤ nI t := nI_le (by omega) (by omega)
    constructor
    · simp (disch := omega) only [p_X12_pays_113, p_X12_pays_55, p_X12_pays_31, p_X12_pays_0, p_X12_pays, hF, hP, hr, hr2, li_0, li_1, li_2, li_3, li_4, li_5, li_6, li_7, li_8, li_9, li_10, li_11, li_12, li_29, li_30, li_32, li_33, li_35, li_42, li_43, li_45, li_47, li_48, li_50, li_57, li_58, li_59, li_60, li_61, li_63, li_64, li_67, li_68, li_72, li_78, li_79, li_80, li_97, li_99, li_100, li_101, li_102, li_103, li_105, li_108, li_109, li_110, li_111, li_112, li_114, li_115, li_116, li_117, li_118, li_119, li_120, li_121, li_126, li_216, li_232, li_240, li_264, li_300, li_1000, li_1000000, li_2147483647, nI_add, nI_mul, cl_n, vi_n, sub_n, vM_rw, vRow_row, vRow_eq, hu1, true_and, P_X12_c, F_X12_c, upd_ne, upd_is, hs, ht, h7, not_true_eq_false, false_implies, true_implies, and_self]
    · simp (disch := omega) only [f_X12_pays_113, f_X12_pays_55, f_X12_pays_31, f_X12_pays_0, f_X12_pays, hF, hr, li_0, li_1, li_2, li_3, li_4, li_5, li_6, li_7, li_8, li_9, li_10, li_11, li_12, li_29, li_30, li_32, li_33, li_35, li_42, li_43, li_45, li_47, li_48, li_50, li_57, li_58, li_59, li_60, li_61, li_63, li_64, li_67, li_68, li_72, li_78, li_79, li_80, li_97, li_99, li_100, li_101, li_102, li_103, li_105, li_108, li_109, li_110, li_111, li_112, li_114, li_115, li_116, li_117, li_118, li_119, li_120, li_121, li_126, li_216, li_232, li_240, li_264, li_300, li_1000, li_1000000, li_2147483647, nI_add, nI_mul, cl_n, vi_n, sub_n, vM_rw, vRow_row, vRow_eq, hu1, F_X12_c, upd_ne, upd_is, hs, ht, h7, if_true, if_neg h6]
/-! closeClaim, withdrawClaim -/
def mRem (w : Nat → Int32) (n k : Nat) : Nat → Int32 := rmv (upd w 1 (nI (n - 1))) (72 + 12 * k) (72 + 12 * (n - 1)) 12
theorem K_X12_removesClaim (v : gV) {n k : Nat} (h1 : v.1 560 1 = nI n) (hn : n ≤ 12) (hk : k < n) : p_X12_removesClaim (nI k) v ∧ f_X12_removesClaim (nI k) v = (v.1 560 (72 + 12 * k + 3), vRow v 560 (mRem (v.1 560) n k)) := by
  unfold mRem
  constructor
  · simp (disch := omega) only [p_X12_removesClaim_32, p_X12_removesClaim_17, p_X12_removesClaim_0, p_X12_removesClaim, li_0, li_1, li_2, li_3, li_4, li_5, li_6, li_7, li_8, li_9, li_10, li_11, li_12, li_29, li_30, li_32, li_33, li_35, li_42, li_43, li_45, li_47, li_48, li_50, li_57, li_58, li_59, li_60, li_61, li_63, li_64, li_67, li_68, li_72, li_78, li_79, li_80, li_97, li_99, li_100, li_101, li_102, li_103, li_105, li_108, li_109, li_110, li_111, li_112, li_114, li_115, li_116, li_117, li_118, li_119, li_120, li_121, li_126, li_216, li_232, li_240, li_264, li_300, li_1000, li_1000000, li_2147483647, nI_add, nI_mul, cl_n, vi_n, sub_n, P_X12_c, h1, vM_rw, vRow_eq, upd_is, and_true, true_and]
    exact P_X12_removeRow _ (by omega) rfl rfl (by omega) (by omega)
  · simp (disch := omega) only [f_X12_removesClaim_32, f_X12_removesClaim_17, f_X12_removesClaim_0, f_X12_removesClaim, li_0, li_1, li_2, li_3, li_4, li_5, li_6, li_7, li_8, li_9, li_10, li_11, li_12, li_29, li_30, li_32, li_33, li_35, li_42, li_43, li_45, li_47, li_48, li_50, li_57, li_58, li_59, li_60, li_61, li_63, li_64, li_67, li_68, li_72, li_78, li_79, li_80, li_97, li_99, li_100, li_101, li_102, li_103, li_105, li_108, li_109, li_110, li_111, li_112, li_114, li_115, li_116, li_117, li_118, li_119, li_120, li_121, li_126, li_216, li_232, li_240, li_264, li_300, li_1000, li_1000000, li_2147483647, nI_add, nI_mul, cl_n, vi_n, sub_n, F_X12_c, h1, vM_rw, vRow_eq, upd_is]
    rw [F_X12_removeRow _ (by omega) (rfl : 72 + 12 * k = _) rfl (by omega) (by omega), vRow_row, vRow_eq]
def yClo (w : Nat → Int32) (nc : Nat) (x : Int32) : Int32 := (clm w nc x).elim (nI 1) fun k => if w (72 + 12 * k + 3) ≤ w (72 + 12 * k + 4) then nI 0 else nI 2
theorem K_X12_cannotClose (x : Int32) (v : gV) {nc : Nat} (h1 : v.1 560 1 = nI nc) (hn : nc ≤ 12) : p_X12_cannotClose x v ∧ f_X12_cannotClose x v = yClo (v.1 560) nc x := by
  have hF := F_X12_claim x v h1 hn
  have hP := P_X12_claim x v h1 hn
  unfold yClo
  cases e : clm (v.1 560) nc x with
  | none =>
    rw [e] at hF
    simp only [f_X12_cannotClose_40, p_X12_cannotClose_40, f_X12_cannotClose_0, p_X12_cannotClose_0, f_X12_cannotClose, p_X12_cannotClose, hF, hP, oN_none, oN_n0, li_0, li_1, li_2, li_3, li_4, li_5, li_6, li_7, li_8, li_9, li_10, li_11, li_12, li_29, li_30, li_32, li_33, li_35, li_42, li_43, li_45, li_47, li_48, li_50, li_57, li_58, li_59, li_60, li_61, li_63, li_64, li_67, li_68, li_72, li_78, li_79, li_80, li_97, li_99, li_100, li_101, li_102, li_103, li_105, li_108, li_109, li_110, li_111, li_112, li_114, li_115, li_116, li_117, li_118, li_119, li_120, li_121, li_126, li_216, li_232, li_240, li_264, li_300, li_1000, li_1000000, li_2147483647, if_false, not_false_eq_true, false_implies, implies_true, and_self, Option.elim]
  | some k =>
    have hk := clm_lt e
    have hs : nI 0 ≤ nI k := nI_pos' (by omega)
    rw [e] at hF
    have hF2 : f_X12_claim x v = nI k := hF
    constructor
    · simp (disch := omega) only [p_X12_cannotClose_40, p_X12_cannotClose_0, p_X12_cannotClose, hF2, hP, li_0, li_1, li_2, li_3, li_4, li_5, li_6, li_7, li_8, li_9, li_10, li_11, li_12, li_29, li_30, li_32, li_33, li_35, li_42, li_43, li_45, li_47, li_48, li_50, li_57, li_58, li_59, li_60, li_61, li_63, li_64, li_67, li_68, li_72, li_78, li_79, li_80, li_97, li_99, li_100, li_101, li_102, li_103, li_105, li_108, li_109, li_110, li_111, li_112, li_114, li_115, li_116, li_117, li_118, li_119, li_120, li_121, li_126, li_216, li_232, li_240, li_264, li_300, li_1000, li_1000000, li_2147483647, P_X12_c, implies_true, and_self]
    · simp (disch := omega) only [f_X12_cannotClose_40, f_X12_cannotClose_0, f_X12_cannotClose, hF2, hs, if_true, li_0, li_1, li_2, li_3, li_4, li_5, li_6, li_7, li_8, li_9, li_10, li_11, li_12, li_29, li_30, li_32, li_33, li_35, li_42, li_43, li_45, li_47, li_48, li_50, li_57, li_58, li_59, li_60, li_61, li_63, li_64, li_67, li_68, li_72, li_78, li_79, li_80, li_97, li_99, li_100, li_101, li_102, li_103, li_105, li_108, li_109, li_110, li_111, li_112, li_114, li_115, li_116, li_117, li_118, li_119, li_120, li_121, li_126, li_216, li_232, li_240, li_264, li_300, li_1000, li_1000000, li_2147483647, F_X12_c, Option.elim]
def yWai (w : Nat → Int32) (nc : Nat) (x : Int32) : Int32 := (clm w nc x).elim (nI 1) fun k => if w (72 + 12 * k + 4) ≤ nI 0 then nI 0 else nI 2
theorem K_X12_cannotWaive (x : Int32) (v : gV) {nc : Nat} (h1 : v.1 560 1 = nI nc) (hn : nc ≤ 12) : p_X12_cannotWaive x v ∧ f_X12_cannotWaive x v = yWai (v.1 560) nc x := by
  have hF := F_X12_claim x v h1 hn
  have hP := P_X12_claim x v h1 hn
  unfold yWai
  cases e : clm (v.1 560) nc x with
  | none =>
    rw [e] at hF
    simp only [f_X12_cannotWaive_30, p_X12_cannotWaive_30, f_X12_cannotWaive_0, p_X12_cannotWaive_0, f_X12_cannotWaive, p_X12_cannotWaive, hF, hP, oN_none, oN_n0, li_0, li_1, li_2, li_3, li_4, li_5, li_6, li_7, li_8, li_9, li_10, li_11, li_12, li_29, li_30, li_32, li_33, li_35, li_42, li_43, li_45, li_47, li_48, li_50, li_57, li_58, li_59, li_60, li_61, li_63, li_64, li_67, li_68, li_72, li_78, li_79, li_80, li_97, li_99, li_100, li_101, li_102, li_103, li_105, li_108, li_109, li_110, li_111, li_112, li_114, li_115, li_116, li_117, li_118, li_119, li_120, li_121, li_126, li_216, li_232, li_240, li_264, li_300, li_1000, li_1000000, li_2147483647, if_false, not_false_eq_true, false_implies, implies_true, and_self, Option.elim]
  | some k =>
    have hk := clm_lt e
    have hs : nI 0 ≤ nI k := nI_pos' (by omega)
    rw [e] at hF
    have hF2 : f_X12_claim x v = nI k := hF
    have h0 : ∀ y : Int32, (y ≤ 0) = (y ≤ nI 0) := fun y => rfl
    constructor
    · simp (disch := omega) only [p_X12_cannotWaive_30, p_X12_cannotWaive_0, p_X12_cannotWaive, hF2, hP, li_0, li_1, li_2, li_3, li_4, li_5, li_6, li_7, li_8, li_9, li_10, li_11, li_12, li_29, li_30, li_32, li_33, li_35, li_42, li_43, li_45, li_47, li_48, li_50, li_57, li_58, li_59, li_60, li_61, li_63, li_64, li_67, li_68, li_72, li_78, li_79, li_80, li_97, li_99, li_100, li_101, li_102, li_103, li_105, li_108, li_109, li_110, li_111, li_112, li_114, li_115, li_116, li_117, li_118, li_119, li_120, li_121, li_126, li_216, li_232, li_240, li_264, li_300, li_1000, li_1000000, li_2147483647, P_X12_c, implies_true, and_self]
    · simp (disch := omega) only [f_X12_cannotWaive_30, f_X12_cannotWaive_0, f_X12_cannotWaive, hF2, li_0, li_1, li_2, li_3, li_4, li_5, li_6, li_7, li_8, li_9, li_10, li_11, li_12, li_29, li_30, li_32, li_33, li_35, li_42, li_43, li_45, li_47, li_48, li_50, li_57, li_58, li_59, li_60, li_61, li_63, li_64, li_67, li_68, li_72, li_78, li_79, li_80, li_97, li_99, li_100, li_101, li_102, li_103, li_105, li_108, li_109, li_110, li_111, li_112, li_114, li_115, li_116, li_117, li_118, li_119, li_120, li_121, li_126, li_216, li_232, li_240, li_264, li_300, li_1000, li_1000000, li_2147483647, hs, if_true, F_X12_c, Option.elim]
/-- the coins of claim k given back to the treaties -/
def giv (w : Nat → Int32) (k i e : Nat) : Nat → Int32 := lp (fun o w => upd w (216 + 4 * o + 2) (w (216 + 4 * o + 2) + w (72 + 12 * k + (6 + o)))) (e - i) i w
def mWai (w : Nat → Int32) (nt nc k q : Nat) : Nat → Int32 := mRem (upd (giv w k 0 nt) (8 + 8 * q + 6) (giv w k 0 nt (8 + 8 * q + 6) - giv w k 0 nt (72 + 12 * k + 3))) nc k
theorem giv_out (w : Nat → Int32) {k j : Nat} (h : j < 216 ∨ 232 ≤ j) (hk : k < 12) : ∀ (m i : Nat) (u : Nat → Int32), i + m ≤ 4 → lp (fun o w => upd w (216 + 4 * o + 2) (w (216 + 4 * o + 2) + w (72 + 12 * k + (6 + o)))) m i u j = u j := by
  intro m
  induction m with
  | zero => intro i u _; rfl
  | succ m ih =>
    intro i u hi
    rw [lp_s, ih (i + 1) _ (by omega), upd_ne (by omega)]
theorem L_X12_waives {np nc nt k q : Nat} (hn : np ≤ 8) (hc : nc ≤ 12) (ht : nt ≤ 4) (hk : k < nc) : ∀ (m i fuel : Nat) (v : gV), i + m = nt → m < fuel → v.1 560 0 = nI np → v.1 560 1 = nI nc → v.1 560 2 = nI nt → pol (v.1 560) np (v.1 560 (72 + 12 * k + 1)) = some q → p_X12_waives_8 fuel (nI k) (nI i) v ∧ f_X12_waives_8 fuel (nI k) (nI i) v = (v.1 560 (72 + 12 * k + 3), vRow v 560 (mRem (upd (giv (v.1 560) k i nt) (8 + 8 * q + 6) (giv (v.1 560) k i nt (8 + 8 * q + 6) - giv (v.1 560) k i nt (72 + 12 * k + 3))) nc k)) := by
  intro m
  induction m with
  | zero =>
    intro i fuel v hk1 hf h0 h1 h2 he
    obtain ⟨f, rfl⟩ := fuel_s hf
    have hq := pol_lt he
    have hle : nI nt ≤ nI i := nI_le (by omega) (by omega)
    have hF : f_X12_policy (v.1 560 (72 + 12 * k + 1)) v = nI q := by rw [F_X12_policy _ v h0 hn, he]; rfl
    have hP := P_X12_policy (v.1 560 (72 + 12 * k + 1)) v h0 hn
    have hg : giv (v.1 560) k i nt = v.1 560 := by
      unfold giv
      rw [show nt - i = 0 by omega, lp_0]
    have hm := K_X12_removesClaim (vRow v 560 (upd (v.1 560) (8 + 8 * q + 6) (v.1 560 (8 + 8 * q + 6) - v.1 560 (72 + 12 * k + 3)))) (n := nc) (k := k) (by rw [vRow_eq, upd_ne (by omega)]; exact h1) hc hk
    rw [vRow_row, vRow_eq, upd_ne (by omega)] at hm
    rw [hg, p_X12_waives_8, f_X12_waives_8]
    constructor
    · simp (disch := omega) only [li_0, li_1, li_2, li_3, li_4, li_5, li_6, li_7, li_8, li_9, li_10, li_11, li_12, li_29, li_30, li_32, li_33, li_35, li_42, li_43, li_45, li_47, li_48, li_50, li_57, li_58, li_59, li_60, li_61, li_63, li_64, li_67, li_68, li_72, li_78, li_79, li_80, li_97, li_99, li_100, li_101, li_102, li_103, li_105, li_108, li_109, li_110, li_111, li_112, li_114, li_115, li_116, li_117, li_118, li_119, li_120, li_121, li_126, li_216, li_232, li_240, li_264, li_300, li_1000, li_1000000, li_2147483647, nI_add, nI_mul, cl_n, vi_n, sub_n, h2, hle, true_implies, not_true_eq_false, false_implies, and_true, P_X12_c, F_X12_c, hF, hP, p_X12_waives_88, p_X12_waives_83, p_X12_waives_44, p_X12_waives_0, p_X12_waives, vM_rw, hm, true_and]
    · simp (disch := omega) only [li_0, li_1, li_2, li_3, li_4, li_5, li_6, li_7, li_8, li_9, li_10, li_11, li_12, li_29, li_30, li_32, li_33, li_35, li_42, li_43, li_45, li_47, li_48, li_50, li_57, li_58, li_59, li_60, li_61, li_63, li_64, li_67, li_68, li_72, li_78, li_79, li_80, li_97, li_99, li_100, li_101, li_102, li_103, li_105, li_108, li_109, li_110, li_111, li_112, li_114, li_115, li_116, li_117, li_118, li_119, li_120, li_121, li_126, li_216, li_232, li_240, li_264, li_300, li_1000, li_1000000, li_2147483647, nI_add, nI_mul, cl_n, vi_n, sub_n, h2, hle, if_true, F_X12_c, hF, f_X12_waives_88, f_X12_waives_83, f_X12_waives_44, f_X12_waives_0, f_X12_waives, vM_rw, hm]
  | succ m ih =>
    intro i fuel v hk1 hf h0 h1 h2 he
    obtain ⟨f, rfl⟩ := fuel_s hf
    have hle : ¬ nI nt ≤ nI i := nI_ge (by omega) (by omega)
    have hpl : ∀ x, pol (upd (v.1 560) (216 + 4 * i + 2) x) np (v.1 560 (72 + 12 * k + 1)) = some q := fun x => by
      rw [← he]
      exact fid_congr fun j hj => upd_ne (by omega)
    have hi := ih (i + 1) f (vM v 560 (216 + 4 * i + 2) (v.1 560 (216 + 4 * i + 2) + v.1 560 (72 + 12 * k + (6 + i)))) (by omega) (by omega) (by rw [vM_rw, vRow_eq, upd_ne (by omega)]; exact h0) (by rw [vM_rw, vRow_eq, upd_ne (by omega)]; exact h1) (by rw [vM_rw, vRow_eq, upd_ne (by omega)]; exact h2) (by rw [vM_rw, vRow_eq, upd_ne (i := 72 + 12 * k + 1) (by omega)]; exact hpl _)
    have hg : giv (upd (v.1 560) (216 + 4 * i + 2) (v.1 560 (216 + 4 * i + 2) + v.1 560 (72 + 12 * k + (6 + i)))) k (i + 1) nt = giv (v.1 560) k i nt := by
      unfold giv
      rw [show nt - i = nt - (i + 1) + 1 by omega, lp_s]
    rw [vM_rw, vRow_row, vRow_eq, hg, upd_ne (i := 72 + 12 * k + 3) (by omega), ← vM_rw] at hi
    rw [p_X12_waives_8, f_X12_waives_8]
    simp (disch := omega) only [li_0, li_1, li_2, li_3, li_4, li_5, li_6, li_7, li_8, li_9, li_10, li_11, li_12, li_29, li_30, li_32, li_33, li_35, li_42, li_43, li_45, li_47, li_48, li_50, li_57, li_58, li_59, li_60, li_61, li_63, li_64, li_67, li_68, li_72, li_78, li_79, li_80, li_97, li_99, li_100, li_101, li_102, li_103, li_105, li_108, li_109, li_110, li_111, li_112, li_114, li_115, li_116, li_117, li_118, li_119, li_120, li_121, li_126, li_216, li_232, li_240, li_264, li_300, li_1000, li_1000000, li_2147483647, nI_add, nI_mul, cl_n, vi_n, sub_n, h2, hle, if_false, not_false_eq_true, true_implies, false_implies, true_and, P_X12_c, F_X12_c, f_X12_waives_44, p_X12_waives_44]
    exact hi
theorem K_X12_waives (x : Int32) (v : gV) {np nc nt k q : Nat} (h0 : v.1 560 0 = nI np) (hn : np ≤ 8) (h1 : v.1 560 1 = nI nc) (hc : nc ≤ 12) (h2 : v.1 560 2 = nI nt) (ht : nt ≤ 4) (hk : clm (v.1 560) nc x = some k) (he : pol (v.1 560) np (v.1 560 (72 + 12 * k + 1)) = some q) : p_X12_waives x v ∧ f_X12_waives x v = (v.1 560 (72 + 12 * k + 3), vRow v 560 (mWai (v.1 560) nt nc k q)) := by
  have hF : f_X12_claim x v = nI k := by rw [F_X12_claim x v h1 hc, hk]; rfl
  have hP := P_X12_claim x v h1 hc
  have h := L_X12_waives hn hc ht (clm_lt hk) nt 0 5000 v (by omega) (by omega) h0 h1 h2 he
  simp only [f_X12_waives_88, p_X12_waives_88, f_X12_waives_83, p_X12_waives_83, f_X12_waives_44, p_X12_waives_44, f_X12_waives_0, p_X12_waives_0, f_X12_waives, p_X12_waives, hF, hP, true_and, li_0, li_1, li_2, li_3, li_4, li_5, li_6, li_7, li_8, li_9, li_10, li_11, li_12, li_29, li_30, li_32, li_33, li_35, li_42, li_43, li_45, li_47, li_48, li_50, li_57, li_58, li_59, li_60, li_61, li_63, li_64, li_67, li_68, li_72, li_78, li_79, li_80, li_97, li_99, li_100, li_101, li_102, li_103, li_105, li_108, li_109, li_110, li_111, li_112, li_114, li_115, li_116, li_117, li_118, li_119, li_120, li_121, li_126, li_216, li_232, li_240, li_264, li_300, li_1000, li_1000000, li_2147483647]
  exact h
/-! offers, days -/
def days (a b : Int32) : Bool := inb a (nI 0) (nI 99) && (inb b (nI 0) (nI 99) && decide (a ≤ b))
theorem F_X12_areDays (a b : Int32) (v : gV) : f_X12_areDays a b v = if days a b = true then nI 1 else nI 0 := by
  simp only [f_X12_areDays_30, f_X12_areDays_29, f_X12_areDays_0, f_X12_areDays, F_X12_in, li_0, li_1, li_2, li_3, li_4, li_5, li_6, li_7, li_8, li_9, li_10, li_11, li_12, li_29, li_30, li_32, li_33, li_35, li_42, li_43, li_45, li_47, li_48, li_50, li_57, li_58, li_59, li_60, li_61, li_63, li_64, li_67, li_68, li_72, li_78, li_79, li_80, li_97, li_99, li_100, li_101, li_102, li_103, li_105, li_108, li_109, li_110, li_111, li_112, li_114, li_115, li_116, li_117, li_118, li_119, li_120, li_121, li_126, li_216, li_232, li_240, li_264, li_300, li_1000, li_1000000, li_2147483647, bz, days]
  rcases Bool.eq_false_or_eq_true (inb a (nI 0) (nI 99)) with h1 | h1
  · rcases Bool.eq_false_or_eq_true (inb b (nI 0) (nI 99)) with h2 | h2
    · by_cases h : b < a
      · have h3 : ¬ a ≤ b := by rw [i_le]; rw [i_lt] at h; omega
        simp only [h1, h2, h, h3, if_true, if_false, decide_false, Bool.and_false, Bool.true_and, Bool.false_eq_true, reduceCtorEq]
      · have h3 : a ≤ b := by rw [i_le]; rw [i_lt] at h; omega
        simp only [h1, h2, h, h3, if_true, if_false, decide_true, Bool.and_self, reduceCtorEq]
    · simp only [h1, h2, if_true, if_false, Bool.false_and, Bool.and_false, Bool.false_eq_true, reduceCtorEq]
  · simp only [h1, if_true, if_false, Bool.false_and, Bool.false_eq_true]
theorem P_X12_areDays (a b : Int32) (v : gV) : p_X12_areDays a b v := by
  simp only [p_X12_areDays_30, p_X12_areDays_29, p_X12_areDays_0, p_X12_areDays, P_X12_in, or_true, true_or, and_self, implies_true]
def yOff (w : Nat → Int32) (a b c : Int32) : Int32 := if days a b = true then (if inb c (nI 1) (nI 50) = true then (if w 3 = nI 8 then nI 2 else nI 0) else nI 1) else nI 1
theorem K_X12_cannotOffer (a b c : Int32) (v : gV) : p_X12_cannotOffer a b c v ∧ f_X12_cannotOffer a b c v = yOff (v.1 560) a b c := by
  constructor
  · simp only [p_X12_cannotOffer_38, p_X12_cannotOffer_18, p_X12_cannotOffer_0, p_X12_cannotOffer, P_X12_areDays, P_X12_in, implies_true, and_self]
  · simp (disch := omega) only [f_X12_cannotOffer_38, f_X12_cannotOffer_18, f_X12_cannotOffer_0, f_X12_cannotOffer, F_X12_areDays, F_X12_in, li_0, li_1, li_2, li_3, li_4, li_5, li_6, li_7, li_8, li_9, li_10, li_11, li_12, li_29, li_30, li_32, li_33, li_35, li_42, li_43, li_45, li_47, li_48, li_50, li_57, li_58, li_59, li_60, li_61, li_63, li_64, li_67, li_68, li_72, li_78, li_79, li_80, li_97, li_99, li_100, li_101, li_102, li_103, li_105, li_108, li_109, li_110, li_111, li_112, li_114, li_115, li_116, li_117, li_118, li_119, li_120, li_121, li_126, li_216, li_232, li_240, li_264, li_300, li_1000, li_1000000, li_2147483647, nI_add, nI_mul, cl_n, vi_n, sub_n, bz, yOff]
    cases days a b <;> cases inb c (nI 1) (nI 50) <;> rfl
def mOff (w : Nat → Int32) (n : Nat) (a b c : Int32) : Nat → Int32 := upd (upd (upd (upd w (232 + 4 * n + 0) a) (232 + 4 * n + 1) b) (232 + 4 * n + 2) c) 3 (nI (n + 1))
theorem K_X12_offers (a b c : Int32) (v : gV) {n : Nat} (h0 : v.1 560 3 = nI n) (hn : n < 8) : p_X12_offers a b c v ∧ f_X12_offers a b c v = (nI n, vRow v 560 (mOff (v.1 560) n a b c)) := by
  unfold mOff
  constructor
  · simp (disch := omega) only [p_X12_offers_54, p_X12_offers_44, p_X12_offers_34, p_X12_offers_24, p_X12_offers_0, p_X12_offers, li_0, li_1, li_2, li_3, li_4, li_5, li_6, li_7, li_8, li_9, li_10, li_11, li_12, li_29, li_30, li_32, li_33, li_35, li_42, li_43, li_45, li_47, li_48, li_50, li_57, li_58, li_59, li_60, li_61, li_63, li_64, li_67, li_68, li_72, li_78, li_79, li_80, li_97, li_99, li_100, li_101, li_102, li_103, li_105, li_108, li_109, li_110, li_111, li_112, li_114, li_115, li_116, li_117, li_118, li_119, li_120, li_121, li_126, li_216, li_232, li_240, li_264, li_300, li_1000, li_1000000, li_2147483647, nI_add, nI_mul, cl_n, vi_n, sub_n, vM_rw, vRow_row, vRow_eq, h0, upd_is, upd_ne, and_self, implies_true]
  · simp (disch := omega) only [f_X12_offers_54, f_X12_offers_44, f_X12_offers_34, f_X12_offers_24, f_X12_offers_0, f_X12_offers, li_0, li_1, li_2, li_3, li_4, li_5, li_6, li_7, li_8, li_9, li_10, li_11, li_12, li_29, li_30, li_32, li_33, li_35, li_42, li_43, li_45, li_47, li_48, li_50, li_57, li_58, li_59, li_60, li_61, li_63, li_64, li_67, li_68, li_72, li_78, li_79, li_80, li_97, li_99, li_100, li_101, li_102, li_103, li_105, li_108, li_109, li_110, li_111, li_112, li_114, li_115, li_116, li_117, li_118, li_119, li_120, li_121, li_126, li_216, li_232, li_240, li_264, li_300, li_1000, li_1000000, li_2147483647, nI_add, nI_mul, cl_n, vi_n, sub_n, vM_rw, vRow_row, vRow_eq, h0, upd_is, upd_ne, Nat.add_sub_cancel]
def mDro (w : Nat → Int32) (n k : Nat) : Nat → Int32 := rmv (upd w 3 (nI (n - 1))) (232 + 4 * k) (232 + 4 * (n - 1)) 4
theorem K_X12_removesOffer (v : gV) {n k : Nat} (h1 : v.1 560 3 = nI n) (hn : n ≤ 8) (hk : k < n) : p_X12_removesOffer (nI k) v ∧ f_X12_removesOffer (nI k) v = (v.1 560 (232 + 4 * k + 2), vRow v 560 (mDro (v.1 560) n k)) := by
  unfold mDro
  constructor
  · simp (disch := omega) only [p_X12_removesOffer_32, p_X12_removesOffer_17, p_X12_removesOffer_0, p_X12_removesOffer, li_0, li_1, li_2, li_3, li_4, li_5, li_6, li_7, li_8, li_9, li_10, li_11, li_12, li_29, li_30, li_32, li_33, li_35, li_42, li_43, li_45, li_47, li_48, li_50, li_57, li_58, li_59, li_60, li_61, li_63, li_64, li_67, li_68, li_72, li_78, li_79, li_80, li_97, li_99, li_100, li_101, li_102, li_103, li_105, li_108, li_109, li_110, li_111, li_112, li_114, li_115, li_116, li_117, li_118, li_119, li_120, li_121, li_126, li_216, li_232, li_240, li_264, li_300, li_1000, li_1000000, li_2147483647, nI_add, nI_mul, cl_n, vi_n, sub_n, P_X12_o, h1, vM_rw, vRow_eq, upd_is, and_true, true_and]
    exact P_X12_removeRow _ (by omega) rfl rfl (by omega) (by omega)
  · simp (disch := omega) only [f_X12_removesOffer_32, f_X12_removesOffer_17, f_X12_removesOffer_0, f_X12_removesOffer, li_0, li_1, li_2, li_3, li_4, li_5, li_6, li_7, li_8, li_9, li_10, li_11, li_12, li_29, li_30, li_32, li_33, li_35, li_42, li_43, li_45, li_47, li_48, li_50, li_57, li_58, li_59, li_60, li_61, li_63, li_64, li_67, li_68, li_72, li_78, li_79, li_80, li_97, li_99, li_100, li_101, li_102, li_103, li_105, li_108, li_109, li_110, li_111, li_112, li_114, li_115, li_116, li_117, li_118, li_119, li_120, li_121, li_126, li_216, li_232, li_240, li_264, li_300, li_1000, li_1000000, li_2147483647, nI_add, nI_mul, cl_n, vi_n, sub_n, F_X12_o, h1, vM_rw, vRow_eq, upd_is]
    rw [F_X12_removeRow _ (by omega) (rfl : 232 + 4 * k = _) rfl (by omega) (by omega), vRow_row, vRow_eq]
def mPas (w : Nat → Int32) (d : Int32) : Nat → Int32 := upd w 6 (w 6 + d)
theorem K_X12_passes (d : Int32) (v : gV) : p_X12_passes d v ∧ f_X12_passes d v = (v.1 560 6 + d, vRow v 560 (mPas (v.1 560) d)) := by
  unfold mPas
  constructor
  · simp (disch := omega) only [p_X12_passes_11, p_X12_passes_0, p_X12_passes]
  · simp (disch := omega) only [f_X12_passes_11, f_X12_passes_0, f_X12_passes, li_0, li_1, li_2, li_3, li_4, li_5, li_6, li_7, li_8, li_9, li_10, li_11, li_12, li_29, li_30, li_32, li_33, li_35, li_42, li_43, li_45, li_47, li_48, li_50, li_57, li_58, li_59, li_60, li_61, li_63, li_64, li_67, li_68, li_72, li_78, li_79, li_80, li_97, li_99, li_100, li_101, li_102, li_103, li_105, li_108, li_109, li_110, li_111, li_112, li_114, li_115, li_116, li_117, li_118, li_119, li_120, li_121, li_126, li_216, li_232, li_240, li_264, li_300, li_1000, li_1000000, li_2147483647, nI_add, nI_mul, cl_n, vi_n, sub_n, vM_rw, vRow_eq, upd_is]
