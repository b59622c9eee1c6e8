/-! the class' policies: made and ended -/
theorem prem_eq (a b c : Int32) : (if nI 1 < (a * b * c + nI 80 - nI 1) / nI 80 then (a * b * c + nI 80 - nI 1) / nI 80 else nI 1) = prem a b c := by
  have h : a * b * c + nI 80 - nI 1 = a * b * c + nI 79 := by
    rw [show nI 80 = nI 79 + nI 1 from rfl, ← Int32.add_assoc, Int32.add_sub_cancel]
  unfold prem
  rw [h]
  generalize (a * b * c + nI 79) / nI 80 = y
  by_cases h1 : nI 1 < y
  · rw [if_pos h1, if_pos (by rw [i_le]; rw [i_lt] at h1; omega)]
  · by_cases h2 : nI 1 ≤ y
    · rw [if_neg h1, if_pos h2, i_eq]
      rw [i_lt] at h1
      rw [i_le] at h2
      omega
    · rw [if_neg h1, if_neg h2]
theorem K_takePlace_P (v : gV) {n : Nat} (h : v.1 2 1 = nI n) (hn : n < 8) : p_X6_takePlace_P 1 v ∧ f_X6_takePlace_P 1 v = (Sum.inl (nI n), vRow (vRow v 3 (upd (v.1 3) n (v.1 2 2))) 2 (upd (upd (v.1 2) 2 (v.1 2 2 + nI 1)) 1 (nI (n + 1)))) := by
  have hx : inx (nI n) (nI 8) = true := inx_nI (by omega) hn
  constructor
  · simp (disch := omega) only [p_X6_takePlace_P_43, p_X6_takePlace_P_33, p_X6_takePlace_P_23, p_X6_takePlace_P_12, p_X6_takePlace_P_0, p_X6_takePlace_P, P_X11_freePlace, F_X11_freePlace, Nat.reduceAdd, h, hx, reduceIte, if_true, if_false, true_and, and_true, false_and, and_false, and_self, not_true_eq_false, not_false_eq_true, true_implies, false_implies, implies_true, forall_const, Bool.false_eq_true, el_l, el_r, Sum.inl.injEq, reduceCtorEq, forall_eq, forall_eq', li_0, li_1, li_2, li_3, li_4, li_5, li_6, li_7, li_8, li_9, li_10, li_11, li_12, li_29, li_30, li_32, li_33, li_35, li_42, li_43, li_45, li_47, li_48, li_50, li_57, li_58, li_59, li_60, li_61, li_63, li_64, li_67, li_68, li_72, li_78, li_79, li_80, li_97, li_99, li_100, li_101, li_102, li_103, li_105, li_108, li_109, li_110, li_111, li_112, li_114, li_115, li_116, li_117, li_118, li_119, li_120, li_121, li_126, li_216, li_232, li_240, li_264, li_300, li_1000, li_1000000, li_2147483647, nI_add, nI_mul, cl_n, vi_n, sub_n, vM_rw, vRow_row, vRow_eq, vRow_ne, upd_is, upd_ne]
  · simp (disch := omega) only [f_X6_takePlace_P_43, f_X6_takePlace_P_33, f_X6_takePlace_P_23, f_X6_takePlace_P_12, f_X6_takePlace_P_0, f_X6_takePlace_P, F_X11_freePlace, Nat.reduceAdd, h, hx, reduceIte, if_true, if_false, true_and, and_true, false_and, and_false, and_self, not_true_eq_false, not_false_eq_true, true_implies, false_implies, implies_true, forall_const, Bool.false_eq_true, el_l, el_r, Sum.inl.injEq, reduceCtorEq, forall_eq, forall_eq', li_0, li_1, li_2, li_3, li_4, li_5, li_6, li_7, li_8, li_9, li_10, li_11, li_12, li_29, li_30, li_32, li_33, li_35, li_42, li_43, li_45, li_47, li_48, li_50, li_57, li_58, li_59, li_60, li_61, li_63, li_64, li_67, li_68, li_72, li_78, li_79, li_80, li_97, li_99, li_100, li_101, li_102, li_103, li_105, li_108, li_109, li_110, li_111, li_112, li_114, li_115, li_116, li_117, li_118, li_119, li_120, li_121, li_126, li_216, li_232, li_240, li_264, li_300, li_1000, li_1000000, li_2147483647, nI_add, nI_mul, cl_n, vi_n, sub_n, vM_rw, vRow_row, vRow_eq, vRow_ne, upd_is, upd_ne]
theorem K_takePlace_P8 (v : gV) (h : v.1 2 1 = nI 8) : p_X6_takePlace_P 1 v ∧ f_X6_takePlace_P 1 v = (Sum.inr "java/lang/IllegalStateException", v) := by
  have hx : inx (nI 8) (nI 8) = false := by decide +kernel
  constructor
  · simp (disch := omega) only [p_X6_takePlace_P_43, p_X6_takePlace_P_33, p_X6_takePlace_P_23, p_X6_takePlace_P_12, p_X6_takePlace_P_0, p_X6_takePlace_P, P_X11_freePlace, F_X11_freePlace, Nat.reduceAdd, h, hx, reduceIte, if_true, if_false, true_and, and_true, false_and, and_false, and_self, not_true_eq_false, not_false_eq_true, true_implies, false_implies, implies_true, forall_const, Bool.false_eq_true, el_l, el_r, Sum.inl.injEq, reduceCtorEq, forall_eq, forall_eq']
  · simp (disch := omega) only [f_X6_takePlace_P_43, f_X6_takePlace_P_33, f_X6_takePlace_P_23, f_X6_takePlace_P_12, f_X6_takePlace_P_0, f_X6_takePlace_P, F_X11_freePlace, Nat.reduceAdd, h, hx, reduceIte, if_true, if_false, true_and, and_true, false_and, and_false, and_self, not_true_eq_false, not_false_eq_true, true_implies, false_implies, implies_true, forall_const, Bool.false_eq_true, el_l, el_r, Sum.inl.injEq, reduceCtorEq, forall_eq, forall_eq']
/-- a policy made -/
def cIns (v : gV) (n : Nat) (a b c : Int32) : gV := vRow (vRow (vRow (vRow (vRow (vRow (vRow (vRow (vRow v 3 (upd (v.1 3) n (v.1 2 2))) 2 (upd (upd (v.1 2) 2 (v.1 2 2 + nI 1)) 1 (nI (n + 1)))) 4 (upd (v.1 4) n a)) 5 (upd (v.1 5) n b)) 6 (upd (v.1 6) n c)) 7 (upd (v.1 7) n (v.1 1 5 + c))) 8 (upd (v.1 8) n (prem a b c))) 9 (upd (v.1 9) n (nI 0))) 1 (upd (upd (v.1 1) 7 (v.1 1 7 + prem a b c)) 6 (v.1 1 6 + prem a b c))
theorem T_makePolicy (a b c : Int32) (v : gV) {n : Nat} (h : v.1 2 1 = nI n) (hn : n < 8) (h1 : inb a (nI 1) (nI 30) = true) (h2 : inb b (nI 0) (nI 8) = true) (h3 : inb c (nI 1) (nI 60) = true) : p_X1_makePolicy 1 a b c v ∧ f_X1_makePolicy 1 a b c v = (Sum.inl (v.1 2 2), cIns v n a b c) := by
  have hk := K_takePlace_P v h hn
  unfold cIns
  constructor
  · simp (disch := omega) only [p_X1_makePolicy_54, p_X1_makePolicy_35, p_X1_makePolicy_14, p_X1_makePolicy_0, p_X1_makePolicy, p_X5_add_97, p_X5_add_89, p_X5_add_65, p_X5_add_54, p_X5_add_46, p_X5_add_38, p_X5_add_28, p_X5_add_23, p_X5_add_15, p_X5_add_7, p_X5_add_0, p_X5_add, f_X5_add_97, f_X5_add_89, f_X5_add_65, f_X5_add_54, f_X5_add_46, f_X5_add_38, f_X5_add_28, f_X5_add_23, f_X5_add_15, f_X5_add_7, f_X5_add_0, f_X5_add, P_X11_checkedNumber, F_X11_checkedNumber, Nat.reduceAdd, li_0, li_1, li_2, li_3, li_4, li_5, li_6, li_7, li_8, li_9, li_10, li_11, li_12, li_29, li_30, li_32, li_33, li_35, li_42, li_43, li_45, li_47, li_48, li_50, li_57, li_58, li_59, li_60, li_61, li_63, li_64, li_67, li_68, li_72, li_78, li_79, li_80, li_97, li_99, li_100, li_101, li_102, li_103, li_105, li_108, li_109, li_110, li_111, li_112, li_114, li_115, li_116, li_117, li_118, li_119, li_120, li_121, li_126, li_216, li_232, li_240, li_264, li_300, li_1000, li_1000000, li_2147483647, h1, h2, h3, hk, reduceIte, if_true, if_false, true_and, and_true, false_and, and_false, and_self, not_true_eq_false, not_false_eq_true, true_implies, false_implies, implies_true, forall_const, Bool.false_eq_true, el_l, el_r, Sum.inl.injEq, reduceCtorEq, forall_eq, forall_eq', nI_add, nI_mul, cl_n, vi_n, vM_rw, vRow_row, vRow_eq, vRow_ne, upd_is, upd_ne]
  · simp (disch := omega) only [f_X1_makePolicy_54, f_X1_makePolicy_35, f_X1_makePolicy_14, f_X1_makePolicy_0, f_X1_makePolicy, f_X5_add_97, f_X5_add_89, f_X5_add_65, f_X5_add_54, f_X5_add_46, f_X5_add_38, f_X5_add_28, f_X5_add_23, f_X5_add_15, f_X5_add_7, f_X5_add_0, f_X5_add, F_X11_checkedNumber, Nat.reduceAdd, li_0, li_1, li_2, li_3, li_4, li_5, li_6, li_7, li_8, li_9, li_10, li_11, li_12, li_29, li_30, li_32, li_33, li_35, li_42, li_43, li_45, li_47, li_48, li_50, li_57, li_58, li_59, li_60, li_61, li_63, li_64, li_67, li_68, li_72, li_78, li_79, li_80, li_97, li_99, li_100, li_101, li_102, li_103, li_105, li_108, li_109, li_110, li_111, li_112, li_114, li_115, li_116, li_117, li_118, li_119, li_120, li_121, li_126, li_216, li_232, li_240, li_264, li_300, li_1000, li_1000000, li_2147483647, h1, h2, h3, hk, reduceIte, if_true, if_false, true_and, and_true, false_and, and_false, and_self, not_true_eq_false, not_false_eq_true, true_implies, false_implies, implies_true, forall_const, Bool.false_eq_true, el_l, el_r, Sum.inl.injEq, reduceCtorEq, forall_eq, forall_eq', nI_add, nI_mul, cl_n, vM_rw, vRow_row, vRow_eq, vRow_ne, upd_is, upd_ne]
    rw [← prem_eq]
    rfl
theorem Y_makePolicy (a b c : Int32) (v : gV) {n : Nat} (h : v.1 2 1 = nI n) (hn : n ≤ 8) (w : Nat → Int32) (h0 : w 0 = nI n) (hy : ¬ yIns w a b c = nI 0) : p_X1_makePolicy 1 a b c v ∧ f_X1_makePolicy 1 a b c v = (Sum.inr (if yIns w a b c = nI 1 then "java/lang/IllegalArgumentException" else "java/lang/IllegalStateException"), v) ∧ (yIns w a b c = nI 1 ∨ yIns w a b c = nI 2) := by
  have q1 : ¬ nI 2 = nI 1 := by decide +kernel
  unfold yIns at hy ⊢
  rw [h0] at hy ⊢
  cases h1 : inb a (nI 1) (nI 30) with
  | false =>
    refine ⟨?_, ?_, Or.inl (if_neg Bool.false_ne_true)⟩
    · simp only [p_X1_makePolicy_54, p_X1_makePolicy_35, p_X1_makePolicy_14, p_X1_makePolicy_0, p_X1_makePolicy, p_X5_add_97, p_X5_add_89, p_X5_add_65, p_X5_add_54, p_X5_add_46, p_X5_add_38, p_X5_add_28, p_X5_add_23, p_X5_add_15, p_X5_add_7, p_X5_add_0, p_X5_add, f_X5_add_97, f_X5_add_89, f_X5_add_65, f_X5_add_54, f_X5_add_46, f_X5_add_38, f_X5_add_28, f_X5_add_23, f_X5_add_15, f_X5_add_7, f_X5_add_0, f_X5_add, P_X11_checkedNumber, F_X11_checkedNumber, li_0, li_1, li_2, li_3, li_4, li_5, li_6, li_7, li_8, li_9, li_10, li_11, li_12, li_29, li_30, li_32, li_33, li_35, li_42, li_43, li_45, li_47, li_48, li_50, li_57, li_58, li_59, li_60, li_61, li_63, li_64, li_67, li_68, li_72, li_78, li_79, li_80, li_97, li_99, li_100, li_101, li_102, li_103, li_105, li_108, li_109, li_110, li_111, li_112, li_114, li_115, li_116, li_117, li_118, li_119, li_120, li_121, li_126, li_216, li_232, li_240, li_264, li_300, li_1000, li_1000000, li_2147483647, h1, reduceIte, if_true, if_false, true_and, and_true, false_and, and_false, and_self, not_true_eq_false, not_false_eq_true, true_implies, false_implies, implies_true, forall_const, Bool.false_eq_true, el_l, el_r, Sum.inl.injEq, reduceCtorEq, forall_eq, forall_eq']
    · simp only [f_X1_makePolicy_54, f_X1_makePolicy_35, f_X1_makePolicy_14, f_X1_makePolicy_0, f_X1_makePolicy, f_X5_add_97, f_X5_add_89, f_X5_add_65, f_X5_add_54, f_X5_add_46, f_X5_add_38, f_X5_add_28, f_X5_add_23, f_X5_add_15, f_X5_add_7, f_X5_add_0, f_X5_add, F_X11_checkedNumber, li_0, li_1, li_2, li_3, li_4, li_5, li_6, li_7, li_8, li_9, li_10, li_11, li_12, li_29, li_30, li_32, li_33, li_35, li_42, li_43, li_45, li_47, li_48, li_50, li_57, li_58, li_59, li_60, li_61, li_63, li_64, li_67, li_68, li_72, li_78, li_79, li_80, li_97, li_99, li_100, li_101, li_102, li_103, li_105, li_108, li_109, li_110, li_111, li_112, li_114, li_115, li_116, li_117, li_118, li_119, li_120, li_121, li_126, li_216, li_232, li_240, li_264, li_300, li_1000, li_1000000, li_2147483647, h1, reduceIte, if_true, if_false, true_and, and_true, false_and, and_false, and_self, not_true_eq_false, not_false_eq_true, true_implies, false_implies, implies_true, forall_const, Bool.false_eq_true, el_l, el_r, Sum.inl.injEq, reduceCtorEq, forall_eq, forall_eq']
  | true =>
    rw [h1, if_pos rfl] at hy
    cases h2 : inb b (nI 0) (nI 8) with
    | false =>
      refine ⟨?_, ?_, Or.inl (by rw [if_pos rfl, if_neg Bool.false_ne_true])⟩
      · simp only [p_X1_makePolicy_54, p_X1_makePolicy_35, p_X1_makePolicy_14, p_X1_makePolicy_0, p_X1_makePolicy, p_X5_add_97, p_X5_add_89, p_X5_add_65, p_X5_add_54, p_X5_add_46, p_X5_add_38, p_X5_add_28, p_X5_add_23, p_X5_add_15, p_X5_add_7, p_X5_add_0, p_X5_add, f_X5_add_97, f_X5_add_89, f_X5_add_65, f_X5_add_54, f_X5_add_46, f_X5_add_38, f_X5_add_28, f_X5_add_23, f_X5_add_15, f_X5_add_7, f_X5_add_0, f_X5_add, P_X11_checkedNumber, F_X11_checkedNumber, li_0, li_1, li_2, li_3, li_4, li_5, li_6, li_7, li_8, li_9, li_10, li_11, li_12, li_29, li_30, li_32, li_33, li_35, li_42, li_43, li_45, li_47, li_48, li_50, li_57, li_58, li_59, li_60, li_61, li_63, li_64, li_67, li_68, li_72, li_78, li_79, li_80, li_97, li_99, li_100, li_101, li_102, li_103, li_105, li_108, li_109, li_110, li_111, li_112, li_114, li_115, li_116, li_117, li_118, li_119, li_120, li_121, li_126, li_216, li_232, li_240, li_264, li_300, li_1000, li_1000000, li_2147483647, h1, h2, reduceIte, if_true, if_false, true_and, and_true, false_and, and_false, and_self, not_true_eq_false, not_false_eq_true, true_implies, false_implies, implies_true, forall_const, Bool.false_eq_true, el_l, el_r, Sum.inl.injEq, reduceCtorEq, forall_eq, forall_eq']
      · simp only [f_X1_makePolicy_54, f_X1_makePolicy_35, f_X1_makePolicy_14, f_X1_makePolicy_0, f_X1_makePolicy, f_X5_add_97, f_X5_add_89, f_X5_add_65, f_X5_add_54, f_X5_add_46, f_X5_add_38, f_X5_add_28, f_X5_add_23, f_X5_add_15, f_X5_add_7, f_X5_add_0, f_X5_add, F_X11_checkedNumber, li_0, li_1, li_2, li_3, li_4, li_5, li_6, li_7, li_8, li_9, li_10, li_11, li_12, li_29, li_30, li_32, li_33, li_35, li_42, li_43, li_45, li_47, li_48, li_50, li_57, li_58, li_59, li_60, li_61, li_63, li_64, li_67, li_68, li_72, li_78, li_79, li_80, li_97, li_99, li_100, li_101, li_102, li_103, li_105, li_108, li_109, li_110, li_111, li_112, li_114, li_115, li_116, li_117, li_118, li_119, li_120, li_121, li_126, li_216, li_232, li_240, li_264, li_300, li_1000, li_1000000, li_2147483647, h1, h2, reduceIte, if_true, if_false, true_and, and_true, false_and, and_false, and_self, not_true_eq_false, not_false_eq_true, true_implies, false_implies, implies_true, forall_const, Bool.false_eq_true, el_l, el_r, Sum.inl.injEq, reduceCtorEq, forall_eq, forall_eq']
    | true =>
      rw [h2, if_pos rfl] at hy
      cases h3 : inb c (nI 1) (nI 60) with
      | false =>
        refine ⟨?_, ?_, Or.inl (by rw [if_pos rfl, if_pos rfl, if_neg Bool.false_ne_true])⟩
        · simp only [p_X1_makePolicy_54, p_X1_makePolicy_35, p_X1_makePolicy_14, p_X1_makePolicy_0, p_X1_makePolicy, p_X5_add_97, p_X5_add_89, p_X5_add_65, p_X5_add_54, p_X5_add_46, p_X5_add_38, p_X5_add_28, p_X5_add_23, p_X5_add_15, p_X5_add_7, p_X5_add_0, p_X5_add, f_X5_add_97, f_X5_add_89, f_X5_add_65, f_X5_add_54, f_X5_add_46, f_X5_add_38, f_X5_add_28, f_X5_add_23, f_X5_add_15, f_X5_add_7, f_X5_add_0, f_X5_add, P_X11_checkedNumber, F_X11_checkedNumber, li_0, li_1, li_2, li_3, li_4, li_5, li_6, li_7, li_8, li_9, li_10, li_11, li_12, li_29, li_30, li_32, li_33, li_35, li_42, li_43, li_45, li_47, li_48, li_50, li_57, li_58, li_59, li_60, li_61, li_63, li_64, li_67, li_68, li_72, li_78, li_79, li_80, li_97, li_99, li_100, li_101, li_102, li_103, li_105, li_108, li_109, li_110, li_111, li_112, li_114, li_115, li_116, li_117, li_118, li_119, li_120, li_121, li_126, li_216, li_232, li_240, li_264, li_300, li_1000, li_1000000, li_2147483647, h1, h2, h3, reduceIte, if_true, if_false, true_and, and_true, false_and, and_false, and_self, not_true_eq_false, not_false_eq_true, true_implies, false_implies, implies_true, forall_const, Bool.false_eq_true, el_l, el_r, Sum.inl.injEq, reduceCtorEq, forall_eq, forall_eq']
        · simp only [f_X1_makePolicy_54, f_X1_makePolicy_35, f_X1_makePolicy_14, f_X1_makePolicy_0, f_X1_makePolicy, f_X5_add_97, f_X5_add_89, f_X5_add_65, f_X5_add_54, f_X5_add_46, f_X5_add_38, f_X5_add_28, f_X5_add_23, f_X5_add_15, f_X5_add_7, f_X5_add_0, f_X5_add, F_X11_checkedNumber, li_0, li_1, li_2, li_3, li_4, li_5, li_6, li_7, li_8, li_9, li_10, li_11, li_12, li_29, li_30, li_32, li_33, li_35, li_42, li_43, li_45, li_47, li_48, li_50, li_57, li_58, li_59, li_60, li_61, li_63, li_64, li_67, li_68, li_72, li_78, li_79, li_80, li_97, li_99, li_100, li_101, li_102, li_103, li_105, li_108, li_109, li_110, li_111, li_112, li_114, li_115, li_116, li_117, li_118, li_119, li_120, li_121, li_126, li_216, li_232, li_240, li_264, li_300, li_1000, li_1000000, li_2147483647, h1, h2, h3, reduceIte, if_true, if_false, true_and, and_true, false_and, and_false, and_self, not_true_eq_false, not_false_eq_true, true_implies, false_implies, implies_true, forall_const, Bool.false_eq_true, el_l, el_r, Sum.inl.injEq, reduceCtorEq, forall_eq, forall_eq']
      | true =>
        rw [h3, if_pos rfl] at hy
        by_cases h8 : n = 8
        · subst h8
          have hk := K_takePlace_P8 v h
          refine ⟨?_, ?_, Or.inr (by rw [if_pos rfl, if_pos rfl, if_pos rfl, if_pos rfl])⟩
          · simp only [p_X1_makePolicy_54, p_X1_makePolicy_35, p_X1_makePolicy_14, p_X1_makePolicy_0, p_X1_makePolicy, p_X5_add_97, p_X5_add_89, p_X5_add_65, p_X5_add_54, p_X5_add_46, p_X5_add_38, p_X5_add_28, p_X5_add_23, p_X5_add_15, p_X5_add_7, p_X5_add_0, p_X5_add, f_X5_add_97, f_X5_add_89, f_X5_add_65, f_X5_add_54, f_X5_add_46, f_X5_add_38, f_X5_add_28, f_X5_add_23, f_X5_add_15, f_X5_add_7, f_X5_add_0, f_X5_add, P_X11_checkedNumber, F_X11_checkedNumber, li_0, li_1, li_2, li_3, li_4, li_5, li_6, li_7, li_8, li_9, li_10, li_11, li_12, li_29, li_30, li_32, li_33, li_35, li_42, li_43, li_45, li_47, li_48, li_50, li_57, li_58, li_59, li_60, li_61, li_63, li_64, li_67, li_68, li_72, li_78, li_79, li_80, li_97, li_99, li_100, li_101, li_102, li_103, li_105, li_108, li_109, li_110, li_111, li_112, li_114, li_115, li_116, li_117, li_118, li_119, li_120, li_121, li_126, li_216, li_232, li_240, li_264, li_300, li_1000, li_1000000, li_2147483647, h1, h2, h3, hk, reduceIte, if_true, if_false, true_and, and_true, false_and, and_false, and_self, not_true_eq_false, not_false_eq_true, true_implies, false_implies, implies_true, forall_const, Bool.false_eq_true, el_l, el_r, Sum.inl.injEq, reduceCtorEq, forall_eq, forall_eq']
          · simp only [f_X1_makePolicy_54, f_X1_makePolicy_35, f_X1_makePolicy_14, f_X1_makePolicy_0, f_X1_makePolicy, f_X5_add_97, f_X5_add_89, f_X5_add_65, f_X5_add_54, f_X5_add_46, f_X5_add_38, f_X5_add_28, f_X5_add_23, f_X5_add_15, f_X5_add_7, f_X5_add_0, f_X5_add, F_X11_checkedNumber, li_0, li_1, li_2, li_3, li_4, li_5, li_6, li_7, li_8, li_9, li_10, li_11, li_12, li_29, li_30, li_32, li_33, li_35, li_42, li_43, li_45, li_47, li_48, li_50, li_57, li_58, li_59, li_60, li_61, li_63, li_64, li_67, li_68, li_72, li_78, li_79, li_80, li_97, li_99, li_100, li_101, li_102, li_103, li_105, li_108, li_109, li_110, li_111, li_112, li_114, li_115, li_116, li_117, li_118, li_119, li_120, li_121, li_126, li_216, li_232, li_240, li_264, li_300, li_1000, li_1000000, li_2147483647, h1, h2, h3, hk, reduceIte, if_true, if_false, true_and, and_true, false_and, and_false, and_self, not_true_eq_false, not_false_eq_true, true_implies, false_implies, implies_true, forall_const, Bool.false_eq_true, el_l, el_r, Sum.inl.injEq, reduceCtorEq, forall_eq, forall_eq', q1]
        · exact absurd (if_neg (by rw [eq_n (by omega) (by omega)]; exact h8)) hy
theorem prem_b (a b c : Int32) (h1 : inb a (nI 1) (nI 30) = true) (h2 : inb b (nI 0) (nI 8) = true) (h3 : inb c (nI 1) (nI 60) = true) : 1 ≤ (prem a b c).toInt ∧ (prem a b c).toInt ≤ 181 := by
  rw [inb_t, tI (by omega), tI (by omega)] at h1 h2 h3
  have m1 : 0 ≤ a.toInt * b.toInt := Int.mul_nonneg (by omega) (by omega)
  have m2 : a.toInt * b.toInt ≤ 30 * 8 := Int.mul_le_mul (by omega) (by omega) (by omega) (by omega)
  have m3 : 0 ≤ a.toInt * b.toInt * c.toInt := Int.mul_nonneg m1 (by omega)
  have m4 : a.toInt * b.toInt * c.toInt ≤ 30 * 8 * 60 := Int.mul_le_mul m2 (by omega) (by omega) (by omega)
  have e1 : (a * b).toInt = a.toInt * b.toInt := ti_mul (by omega) (by omega)
  have e2 : (a * b * c).toInt = a.toInt * b.toInt * c.toInt := by rw [ti_mul (by rw [e1]; omega) (by rw [e1]; omega), e1]
  have t79 : (nI 79).toInt = 79 := tI (by omega)
  have t80 : (nI 80).toInt = 80 := tI (by omega)
  have t1 : (nI 1).toInt = 1 := tI (by omega)
  have e3 : (a * b * c + nI 79).toInt = a.toInt * b.toInt * c.toInt + 79 := by rw [ti_add (by rw [e2, t79]; omega) (by rw [e2, t79]; omega), e2, t79]
  have e4 : ((a * b * c + nI 79) / nI 80).toInt = (a.toInt * b.toInt * c.toInt + 79) / 80 := by rw [ti_div (ne_neg1 (by omega)), e3, t80, Int.tdiv_eq_ediv_of_nonneg (by omega)]
  unfold prem
  by_cases h : nI 1 ≤ (a * b * c + nI 79) / nI 80
  · rw [if_pos h, e4]
    rw [i_le, e4, t1] at h
    omega
  · rw [if_neg h, t1]
    omega
theorem cIns_Fr (v : gV) (n : Nat) (a b c : Int32) : Fr v (cIns v n a b c) := by
  unfold cIns
  exact ⟨rfl, fun j hj => by simp (disch := omega) only [vRow_ne]⟩
theorem cIns_o (v : gV) (n : Nat) (a b c : Int32) {o : Nat} (h : 10 ≤ o) : (cIns v n a b c).1 o = v.1 o := by
  unfold cIns
  simp (disch := omega) only [vRow_ne]
theorem mIns_o (w : Nat → Int32) (n : Nat) (a b c : Int32) {i : Nat} (h : 72 ≤ i) (hn : n < 8) : mIns w n a b c i = w i := by
  unfold mIns
  simp (disch := omega) only [upd_ne]
theorem mIns_p (w : Nat → Int32) (n : Nat) (a b c : Int32) {i : Nat} (h : 8 ≤ i) (hi : i < 8 + 8 * n) : mIns w n a b c i = w i := by
  unfold mIns
  simp (disch := omega) only [upd_ne]
theorem K_makePolicy (a b c : Int32) (v : gV) {w : Nat → Int32} {B np nc nt no : Nat} (hB : B < 40000) (h : BR B v 1 w np nc nt no) (hy : yIns w a b c = nI 0) : p_X1_makePolicy 1 a b c v ∧ np < 8 ∧ ∃ v', f_X1_makePolicy 1 a b c v = (Sum.inl (w 4), v') ∧ Fr v v' ∧ BR (B + 1) v' 1 (mIns w np a b c) (np + 1) nc nt no := by
  obtain ⟨hw, hs, wp, wc, wt, we, wo, bs, bp, bc, bt, be, bo, bk, bx⟩ := h
  obtain ⟨n1, n2, n3, n4, n5, n6, n7, n8⟩ := id hw
  obtain ⟨s1, s2, s3, s4, s5, s6, s7, s8⟩ := id bs
  have q1 : ¬ nI 1 = nI 0 := n10
  have q2 : ¬ nI 2 = nI 0 := by decide +kernel
  unfold yIns at hy
  have h1 : inb a (nI 1) (nI 30) = true := by
    cases h1 : inb a (nI 1) (nI 30) with
    | true => rfl
    | false => rw [h1] at hy; exact absurd hy q1
  rw [if_pos h1] at hy
  have h2 : inb b (nI 0) (nI 8) = true := by
    cases h2 : inb b (nI 0) (nI 8) with
    | true => rfl
    | false => rw [h2] at hy; exact absurd hy q1
  rw [if_pos h2] at hy
  have h3 : inb c (nI 1) (nI 60) = true := by
    cases h3 : inb c (nI 1) (nI 60) with
    | true => rfl
    | false => rw [h3] at hy; exact absurd hy q1
  rw [if_pos h3, n1] at hy
  have h8 : np < 8 := by
    by_cases h8 : np = 8
    · subst h8
      exact absurd hy q2
    · omega
  obtain ⟨hp, hf⟩ := T_makePolicy a b c v s1 h8 h1 h2 h3
  refine ⟨hp, h8, _, ?_, cIns_Fr v np a b c, ?_⟩
  · rw [hf]
    show (Sum.inl (v.1 2 2), _) = _
    rw [show v.1 2 2 = w 4 from s2]
  obtain ⟨p1, p2⟩ := prem_b a b c h1 h2 h3
  rw [inb_t, tI (by omega), tI (by omega)] at h1 h2 h3
  obtain ⟨f1, f2, f3, f4, f5, f6⟩ := hs
  have t1 : (nI 1).toInt = 1 := tI (by omega)
  have t0 : (nI 0).toInt = 0 := tI (by omega)
  have e4 : (w 4 + nI 1).toInt = (w 4).toInt + 1 := by rw [ti_add (by omega) (by omega), t1]
  have e6 : (w 6 + c).toInt = (w 6).toInt + c.toInt := ti_add (by omega) (by omega)
  have m4 : mIns w np a b c 4 = w 4 + nI 1 := by unfold mIns; simp (disch := omega) only [upd_is]
  have m5 : mIns w np a b c 5 = w 5 := by unfold mIns; simp (disch := omega) only [upd_ne]
  have m6 : mIns w np a b c 6 = w 6 := by unfold mIns; simp (disch := omega) only [upd_ne]
  refine ⟨⟨?_, ?_, ?_, ?_, by omega, n6, n7, n8⟩, ?_, ⟨?_, ?_⟩, ?_, ?_, ?_, ?_, ?_, ?_, ?_, ?_, ?_, ?_, ?_, ?_⟩
  · unfold mIns; simp (disch := omega) only [upd_is, upd_ne]
  · unfold mIns; simp (disch := omega) only [upd_is, upd_ne]; exact n2
  · unfold mIns; simp (disch := omega) only [upd_is, upd_ne]; exact n3
  · unfold mIns; simp (disch := omega) only [upd_is, upd_ne]; exact n4
  · unfold WFs
    rw [m4, m5, m6, e4]
    omega
  · intro k hk
    unfold WFp1
    rw [m4, e4]
    by_cases e : k = np
    · subst e
      unfold mIns
      simp (disch := omega) only [Nat.add_zero, upd_is, upd_ne]
      rw [e6, t0]
      omega
    · have h1 := wp.1 k (by omega)
      unfold WFp1 at h1
      rw [mIns_p _ _ _ _ _ (by omega) (by omega), mIns_p _ _ _ _ _ (by omega) (by omega), mIns_p _ _ _ _ _ (by omega) (by omega), mIns_p _ _ _ _ _ (by omega) (by omega), mIns_p _ _ _ _ _ (by omega) (by omega), mIns_p _ _ _ _ _ (by omega) (by omega), mIns_p _ _ _ _ _ (by omega) (by omega)]
      omega
  · intro j k hj hk
    rw [mIns_p w np a b c (i := 8 + 8 * j) (by omega) (by omega)]
    by_cases e : k = np
    · subst e
      have h1 := wp.1 j (by omega)
      unfold WFp1 at h1
      unfold mIns
      simp (disch := omega) only [Nat.add_zero, upd_is, upd_ne]
      omega
    · rw [mIns_p _ _ _ _ _ (by omega) (by omega)]
      exact wp.2 j k hj (by omega)
  · exact WFc_congr n6 (by rw [m5]; exact Int.le_refl _) (by rw [m6]; exact Int.le_refl _) (fun _ q _ hq _ => ⟨q, by omega, mIns_p _ _ _ _ _ (by omega) (by omega)⟩) (fun i hi _ => mIns_o _ _ _ _ _ hi h8) wc
  · exact WFt_congr n7 (fun i hi _ => mIns_o _ _ _ _ _ (by omega) h8) wt
  · exact WFe_congr (by omega) (fun i hi _ => mIns_o _ _ _ _ _ (by omega) h8) we
  · exact WFo_congr n8 (fun i hi _ => mIns_o _ _ _ _ _ (by omega) h8) wo
  · unfold BRs
    rw [m4, m5, m6]
    unfold cIns mIns
    simp (disch := omega) only [Nat.reduceAdd, vRow_eq, vRow_ne, upd_is, upd_ne]
    exact ⟨trivial, by rw [show v.1 2 2 = w 4 from s2], s3, s4, s5, s6, s7, by rw [show v.1 1 6 = w 7 from s8]⟩
  · intro k hk
    by_cases e : k = np
    · subst e
      unfold cIns mIns
      simp (disch := omega) only [Nat.reduceAdd, Nat.add_zero, vRow_eq, vRow_ne, upd_is, upd_ne]
      exact ⟨s2, trivial, trivial, trivial, by rw [show v.1 1 5 = w 6 from s7], trivial, trivial⟩
    · have h1 := bp k (by omega)
      rw [mIns_p _ _ _ _ _ (by omega) (by omega), mIns_p _ _ _ _ _ (by omega) (by omega), mIns_p _ _ _ _ _ (by omega) (by omega), mIns_p _ _ _ _ _ (by omega) (by omega), mIns_p _ _ _ _ _ (by omega) (by omega), mIns_p _ _ _ _ _ (by omega) (by omega), mIns_p _ _ _ _ _ (by omega) (by omega)]
      unfold cIns
      simp (disch := omega) only [Nat.reduceAdd, vRow_eq, vRow_ne, upd_is, upd_ne]
      exact h1
  · exact BRc_congr n6 (fun o h1 _ => cIns_o _ _ _ _ _ (by omega)) (fun i hi _ => mIns_o _ _ _ _ _ hi h8) bc
  · exact BRt_congr n7 (fun o h1 _ => cIns_o _ _ _ _ _ (by omega)) (fun i hi _ => mIns_o _ _ _ _ _ (by omega) h8) bt
  · exact BRe_congr (fun o h1 _ => cIns_o _ _ _ _ _ (by omega)) (fun i hi _ => mIns_o _ _ _ _ _ (by omega) h8) be
  · exact BRo_congr n8 (fun o h1 _ => cIns_o _ _ _ _ _ (by omega)) (fun i hi _ => mIns_o _ _ _ _ _ (by omega) h8) bo
  · refine ⟨?_, fun k hk => ?_⟩
    · have hb := bk.1
      unfold cIns
      simp (disch := omega) only [vRow_eq, upd_is, upd_ne]
      rw [hb]
      generalize v.1 1 7 = r7
      generalize v.1 1 8 = r8
      generalize v.1 1 9 = r9
      generalize v.1 1 10 = r10
      generalize v.1 1 11 = r11
      grind
    · rw [cIns_o _ _ _ _ _ (by omega), mIns_o _ _ _ _ _ (by omega) h8, sI_congr (g := fun i => prt w i k) fun i hi => by unfold prt; rw [mIns_o _ _ _ _ _ (by omega) h8]]
      exact bk.2 k hk
  · exact chars_congr (cIns_o _ _ _ _ _ (by omega)) bx
/-! a policy ended -/
theorem F_X5_isActiveAt (v : gV) (d : Int32) {k : Nat} (hk : k < 8) : f_X5_isActiveAt 1 (nI k) d v = if v.1 7 k ≤ d then nI 0 else nI 1 := by
  simp (disch := omega) only [f_X5_isActiveAt_15, f_X5_isActiveAt_0, f_X5_isActiveAt, li_0, li_1, li_2, li_3, li_4, li_5, li_6, li_7, li_8, li_9, li_10, li_11, li_12, li_29, li_30, li_32, li_33, li_35, li_42, li_43, li_45, li_47, li_48, li_50, li_57, li_58, li_59, li_60, li_61, li_63, li_64, li_67, li_68, li_72, li_78, li_79, li_80, li_97, li_99, li_100, li_101, li_102, li_103, li_105, li_108, li_109, li_110, li_111, li_112, li_114, li_115, li_116, li_117, li_118, li_119, li_120, li_121, li_126, li_216, li_232, li_240, li_264, li_300, li_1000, li_1000000, li_2147483647, nI_add, nI_mul, cl_n, vi_n, sub_n, Nat.reduceAdd]
theorem P_X5_isActiveAt (v : gV) (d : Int32) {k : Nat} (hk : k < 8) : p_X5_isActiveAt 1 (nI k) d v := by
  simp (disch := omega) only [p_X5_isActiveAt_15, p_X5_isActiveAt_0, p_X5_isActiveAt, li_0, li_1, li_2, li_3, li_4, li_5, li_6, li_7, li_8, li_9, li_10, li_11, li_12, li_29, li_30, li_32, li_33, li_35, li_42, li_43, li_45, li_47, li_48, li_50, li_57, li_58, li_59, li_60, li_61, li_63, li_64, li_67, li_68, li_72, li_78, li_79, li_80, li_97, li_99, li_100, li_101, li_102, li_103, li_105, li_108, li_109, li_110, li_111, li_112, li_114, li_115, li_116, li_117, li_118, li_119, li_120, li_121, li_126, li_216, li_232, li_240, li_264, li_300, li_1000, li_1000000, li_2147483647, nI_add, nI_mul, cl_n, vi_n, sub_n, or_true, true_or, and_self, implies_true]
theorem F_act {v : gV} {w : Nat → Int32} {np k : Nat} (hn : np ≤ 8) (bp : BRp v 1 w np) (hk : k < np) : f_X5_isActiveAt 1 (nI k) (w 6) v = if act w k = true then nI 1 else nI 0 := by
  rw [F_X5_isActiveAt v _ (by omega), show v.1 7 k = _ from (bp k hk).2.2.2.2.1]
  unfold act
  by_cases h : w (8 + 8 * k + 4) ≤ w 6
  · rw [if_pos h, decide_eq_true h]
    rfl
  · rw [if_neg h, decide_eq_false h]
    rfl
theorem K_refundAt {B : Nat} {v : gV} {w : Nat → Int32} {np k : Nat} (hn : np ≤ 8) (bp : BRp v 1 w np) (wp : WFp B w np) (hk : k < np) : p_X5_refundAt 1 (nI k) (w 6) v ∧ f_X5_refundAt 1 (nI k) (w 6) v = bck w k := by
  have ha := F_act hn bp hk
  have hp := P_X5_isActiveAt v (w 6) (k := k) (by omega)
  obtain ⟨b1, b2, b3, b4, b5, b6, b7⟩ := bp k hk
  have h1 := wp.1 k hk
  unfold WFp1 at h1
  have t1 : (nI 1).toInt = 1 := tI (by omega)
  have hle : nI 1 ≤ w (8 + 8 * k + 3) := by rw [i_le, t1]; omega
  have hne : ¬ w (8 + 8 * k + 3) = nI 0 := by rw [i_eq, tI (by omega)]; omega
  have b4' : v.1 6 k = w (8 + 8 * k + 3) := b4
  have b5' : v.1 7 k = w (8 + 8 * k + 4) := b5
  have b6' : v.1 8 k = w (8 + 8 * k + 5) := b6
  unfold bck
  constructor
  · simp (disch := omega) only [p_X5_refundAt_19, p_X5_refundAt_0, p_X5_refundAt, ha, hp, li_0, li_1, li_2, li_3, li_4, li_5, li_6, li_7, li_8, li_9, li_10, li_11, li_12, li_29, li_30, li_32, li_33, li_35, li_42, li_43, li_45, li_47, li_48, li_50, li_57, li_58, li_59, li_60, li_61, li_63, li_64, li_67, li_68, li_72, li_78, li_79, li_80, li_97, li_99, li_100, li_101, li_102, li_103, li_105, li_108, li_109, li_110, li_111, li_112, li_114, li_115, li_116, li_117, li_118, li_119, li_120, li_121, li_126, li_216, li_232, li_240, li_264, li_300, li_1000, li_1000000, li_2147483647, nI_add, nI_mul, cl_n, vi_n, sub_n, Nat.reduceAdd, b4', b5', b6', hle, hne, not_true_eq_false, not_false_eq_true, true_implies, false_implies, implies_true, and_self]
  · cases h : act w k with
    | true => simp (disch := omega) only [f_X5_refundAt_19, f_X5_refundAt_0, f_X5_refundAt, ha, h, li_0, li_1, li_2, li_3, li_4, li_5, li_6, li_7, li_8, li_9, li_10, li_11, li_12, li_29, li_30, li_32, li_33, li_35, li_42, li_43, li_45, li_47, li_48, li_50, li_57, li_58, li_59, li_60, li_61, li_63, li_64, li_67, li_68, li_72, li_78, li_79, li_80, li_97, li_99, li_100, li_101, li_102, li_103, li_105, li_108, li_109, li_110, li_111, li_112, li_114, li_115, li_116, li_117, li_118, li_119, li_120, li_121, li_126, li_216, li_232, li_240, li_264, li_300, li_1000, li_1000000, li_2147483647, nI_add, nI_mul, cl_n, vi_n, sub_n, Nat.reduceAdd, b4', b5', b6', hle, if_true, n10, if_false]
    | false => simp (disch := omega) only [f_X5_refundAt_19, f_X5_refundAt_0, f_X5_refundAt, ha, h, li_0, li_1, li_2, li_3, li_4, li_5, li_6, li_7, li_8, li_9, li_10, li_11, li_12, li_29, li_30, li_32, li_33, li_35, li_42, li_43, li_45, li_47, li_48, li_50, li_57, li_58, li_59, li_60, li_61, li_63, li_64, li_67, li_68, li_72, li_78, li_79, li_80, li_97, li_99, li_100, li_101, li_102, li_103, li_105, li_108, li_109, li_110, li_111, li_112, li_114, li_115, li_116, li_117, li_118, li_119, li_120, li_121, li_126, li_216, li_232, li_240, li_264, li_300, li_1000, li_1000000, li_2147483647, nI_add, nI_mul, cl_n, vi_n, sub_n, Bool.false_eq_true, if_true, if_false]
def cEnd (v : gV) (n k : Nat) (r : Int32) : gV := vRow (vRow (vRow (vRow (vRow (vRow (vRow (vRow (vRow v 3 (gap (v.1 3) k 7)) 2 (upd (v.1 2) 1 (nI (n - 1)))) 4 (gap (v.1 4) k 7)) 5 (gap (v.1 5) k 7)) 6 (gap (v.1 6) k 7)) 7 (gap (v.1 7) k 7)) 8 (gap (v.1 8) k 7)) 9 (gap (v.1 9) k 7)) 1 (upd (upd (v.1 1) 8 (v.1 1 8 + r)) 6 (v.1 1 6 - r))
theorem P_cg8 (v : gV) (j : Nat) {k : Nat} (hk : k < 8) : p_X11_closeGap j 8 (nI k) v := P_X11_closeGap j 8 v hk (by omega)
theorem F_cg8 (v : gV) (j : Nat) {k : Nat} (hk : k < 8) : f_X11_closeGap j 8 (nI k) v = vRow v j (gap (v.1 j) k 7) := F_X11_closeGap j 8 v hk (by omega)
def cRmP (v : gV) (n k : Nat) : gV := vRow (vRow (vRow (vRow (vRow (vRow (vRow (vRow v 3 (gap (v.1 3) k 7)) 2 (upd (v.1 2) 1 (nI (n - 1)))) 4 (gap (v.1 4) k 7)) 5 (gap (v.1 5) k 7)) 6 (gap (v.1 6) k 7)) 7 (gap (v.1 7) k 7)) 8 (gap (v.1 8) k 7)) 9 (gap (v.1 9) k 7)
theorem T_removeId_P (v : gV) {n k : Nat} (h : v.1 2 1 = nI n) (hk : k < n) (hn : n ≤ 8) : p_X6_removeId_P 1 (nI k) v ∧ f_X6_removeId_P 1 (nI k) v = vRow (vRow v 3 (gap (v.1 3) k 7)) 2 (upd (v.1 2) 1 (nI (n - 1))) := by
  constructor
  · simp (disch := omega) only [p_X6_removeId_P_18, p_X6_removeId_P_8, p_X6_removeId_P_0, p_X6_removeId_P, P_cg8, and_self]
  · simp (disch := omega) only [f_X6_removeId_P_18, f_X6_removeId_P_8, f_X6_removeId_P_0, f_X6_removeId_P, F_cg8, Nat.reduceAdd, li_0, li_1, li_2, li_3, li_4, li_5, li_6, li_7, li_8, li_9, li_10, li_11, li_12, li_29, li_30, li_32, li_33, li_35, li_42, li_43, li_45, li_47, li_48, li_50, li_57, li_58, li_59, li_60, li_61, li_63, li_64, li_67, li_68, li_72, li_78, li_79, li_80, li_97, li_99, li_100, li_101, li_102, li_103, li_105, li_108, li_109, li_110, li_111, li_112, li_114, li_115, li_116, li_117, li_118, li_119, li_120, li_121, li_126, li_216, li_232, li_240, li_264, li_300, li_1000, li_1000000, li_2147483647, nI_add, nI_mul, cl_n, vi_n, sub_n, vM_rw, vRow_eq, vRow_ne, h]
theorem P_remove_P (v : gV) {n k : Nat} (h : v.1 2 1 = nI n) (hk : k < n) (hn : n ≤ 8) : p_X5_remove 1 (nI k) v := by
  have hr := (T_removeId_P v h hk hn).1
  simp (disch := omega) only [p_X5_remove_53, p_X5_remove_45, p_X5_remove_37, p_X5_remove_29, p_X5_remove_21, p_X5_remove_13, p_X5_remove_5, p_X5_remove_0, p_X5_remove, hr, P_cg8, and_self]
theorem F_cgS {u v : gV} {j k : Nat} (hk : k < 8) (h : u.1 j = v.1 j) : f_X11_closeGap j 8 (nI k) u = vRow u j (gap (v.1 j) k 7) := by
  rw [F_cg8 u j hk, h]
theorem F_remove_P (v : gV) {n k : Nat} (h : v.1 2 1 = nI n) (hk : k < n) (hn : n ≤ 8) : f_X5_remove 1 (nI k) v = cRmP v n k := by
  have e0 : ∀ u : gV, f_X5_remove_53 1 u = u := fun u => by rw [f_X5_remove_53]
  have e : f_X5_remove 1 (nI k) v = f_X5_remove_53 1 (f_X11_closeGap 9 8 (nI k) (f_X11_closeGap 8 8 (nI k) (f_X11_closeGap 7 8 (nI k) (f_X11_closeGap 6 8 (nI k) (f_X11_closeGap 5 8 (nI k) (f_X11_closeGap 4 8 (nI k) (f_X6_removeId_P 1 (nI k) v))))))) := rfl
  have hk8 : k < 8 := by omega
  rw [e, e0, (T_removeId_P v h hk hn).2]
  unfold cRmP
  rw [F_cgS (v := v) (j := 4) hk8 (by simp (disch := omega) only [vRow_ne])]
  rw [F_cgS (v := v) (j := 5) hk8 (by simp (disch := omega) only [vRow_ne])]
  rw [F_cgS (v := v) (j := 6) hk8 (by simp (disch := omega) only [vRow_ne])]
  rw [F_cgS (v := v) (j := 7) hk8 (by simp (disch := omega) only [vRow_ne])]
  rw [F_cgS (v := v) (j := 8) hk8 (by simp (disch := omega) only [vRow_ne])]
  rw [F_cgS (v := v) (j := 9) hk8 (by simp (disch := omega) only [vRow_ne])]
theorem T_remove_P (v : gV) {n k : Nat} (h : v.1 2 1 = nI n) (hk : k < n) (hn : n ≤ 8) : p_X5_remove 1 (nI k) v ∧ f_X5_remove 1 (nI k) v = cRmP v n k := ⟨P_remove_P v h hk hn, F_remove_P v h hk hn⟩
theorem hcl_t {w : Nat → Int32} {n : Nat} {x : Int32} : hcl w n x = true → ∃ i, i < n ∧ w (72 + 12 * i + 1) = x := fun h => by
  unfold hcl at h
  cases e : ff (fun i => decide (w (72 + 12 * i + 1) = x)) n 0 with
  | none => rw [e] at h; cases h
  | some i =>
    obtain ⟨-, h1, h2, -⟩ := ff_some n 0 i e
    exact ⟨i, by omega, of_decide_eq_true h2⟩
theorem hcl_f {w : Nat → Int32} {n : Nat} {x : Int32} (h : hcl w n x = false) : ∀ i, i < n → ¬ w (72 + 12 * i + 1) = x := fun i hi => by
  unfold hcl at h
  cases e : ff (fun i => decide (w (72 + 12 * i + 1) = x)) n 0 with
  | some i => rw [e] at h; cases h
  | none => exact of_decide_eq_false (ff_none n 0 e i (by omega) (by omega))
/-- a policy's place, as the class finds it -/
theorem F_placeOf_P {v : gV} {w : Nat → Int32} {np nc nt no : Nat} (hn : np ≤ 8) (bs : BRs v 1 w np nc nt no) (bp : BRp v 1 w np) (x : Int32) : p_X6_placeOf_P 1 x v ∧ f_X6_placeOf_P 1 x v = (pol w np x).elim (Sum.inr "java/util/NoSuchElementException") (fun k => Sum.inl (nI k)) := by
  have s1 : v.1 2 1 = nI np := bs.1
  have hf : f_X11_find 3 8 (nI np) x v = oN (pol w np x) := by
    rw [F_X11_find 3 8 x v hn (by omega)]
    unfold pol
    rw [fid_congr fun i hi => (bp i hi).1]
  have hp := P_X11_find 3 8 x v hn (by omega)
  constructor
  · simp (disch := omega) only [p_X6_placeOf_P_0, p_X6_placeOf_P, Nat.reduceAdd, s1, hp, implies_true, and_self]
  · simp (disch := omega) only [f_X6_placeOf_P_0, f_X6_placeOf_P, Nat.reduceAdd, s1, hf]
    cases e : pol w np x with
    | none => exact if_neg oN_none
    | some k =>
      have := pol_lt e
      exact if_pos (oN_some (by omega))
theorem F_hasClaim {v : gV} {w : Nat → Int32} {np nc nt no : Nat} (hn : nc ≤ 12) (bs : BRs v 1 w np nc nt no) (bc : BRc v 1 w nc) (x : Int32) : p_X11_find 13 12 (v.1 11 1) x v ∧ (f_X11_find 13 12 (v.1 11 1) x v < 0 ↔ hcl w nc x = false) := by
  have s3 : v.1 11 1 = nI nc := bs.2.2.1
  rw [s3]
  refine ⟨P_X11_find 13 12 x v hn (by omega), ?_⟩
  rw [F_X11_find 13 12 x v hn (by omega), fid_congr (q := fun i => w (72 + 12 * i + 1)) fun i hi => (bc i hi).2.1]
  unfold fid hcl
  cases e : ff (fun i => decide (w (72 + 12 * i + 1) = x)) nc 0 with
  | none => exact ⟨fun _ => rfl, fun _ => oN_none'⟩
  | some i =>
    obtain ⟨-, h1, -⟩ := ff_some nc 0 i e
    exact ⟨fun h => absurd h (oN_some' (by omega)), fun h => by cases h⟩
theorem mEnd_p (w : Nat → Int32) {n k i o : Nat} (hi : i + 1 < n) (ho : o < 8) : mEnd w n k (8 + 8 * i + o) = if i < k then w (8 + 8 * i + o) else w (8 + 8 * (i + 1) + o) := by
  unfold mEnd rmv
  rw [fil_out (by omega)]
  by_cases h : i < k
  · rw [shf_out (by omega), upd_ne (by omega), upd_ne (by omega), if_pos h]
  · rw [shf_in (by omega), upd_ne (by omega), upd_ne (by omega), if_neg h, show 8 + 8 * i + o + 8 = 8 + 8 * (i + 1) + o by omega]
theorem mEnd_o (w : Nat → Int32) {n k i : Nat} (hi : 72 ≤ i) (hn : n ≤ 8) (h0 : 0 < n) : mEnd w n k i = w i := by
  unfold mEnd rmv
  rw [fil_out (by omega), shf_out (by omega), upd_ne (by omega), upd_ne (by omega)]
theorem mEnd_lo (w : Nat → Int32) {n k i : Nat} (hi : i < 8) : mEnd w n k i = upd (upd w 7 (w 7 - bck w k)) 0 (nI (n - 1)) i := by
  unfold mEnd rmv
  rw [fil_out (by omega), shf_out (by omega)]
theorem gap_i (r : Nat → Int32) {k n i : Nat} (hi : i < n) : gap r k n i = if i < k then r i else r (i + 1) := by
  by_cases h : i < k
  · rw [gap_lo h, if_pos h]
  · rw [gap_hi (by omega) hi, if_neg h]
theorem cEnd_Fr (v : gV) (n k : Nat) (r : Int32) : Fr v (cEnd v n k r) := by
  unfold cEnd
  exact ⟨rfl, fun j hj => by simp (disch := omega) only [vRow_ne]⟩
theorem cEnd_o (v : gV) (n k : Nat) (r : Int32) {o : Nat} (h : 10 ≤ o) : (cEnd v n k r).1 o = v.1 o := by
  unfold cEnd
  simp (disch := omega) only [vRow_ne]
theorem K_removePolicy (x : Int32) (v : gV) {w : Nat → Int32} {B np nc nt no : Nat} (h : BR B v 1 w np nc nt no) : p_X1_removePolicy 1 x v ∧ (yEnd w np nc x = nI 1 → f_X1_removePolicy 1 x v = (Sum.inr "java/util/NoSuchElementException", v)) ∧ (yEnd w np nc x = nI 2 → f_X1_removePolicy 1 x v = (Sum.inr "java/lang/IllegalStateException", v)) ∧ (yEnd w np nc x = nI 0 → ∃ k v', pol w np x = some k ∧ f_X1_removePolicy 1 x v = (Sum.inl (bck w k), v') ∧ Fr v v' ∧ BR (B + 1) v' 1 (mEnd w np k) (np - 1) nc nt no) := by
  obtain ⟨hw, hs, wp, wc, wt, we, wo, bs, bp, bc, bt, be, bo, bk, bx⟩ := h
  obtain ⟨n1, n2, n3, n4, n5, n6, n7, n8⟩ := id hw
  obtain ⟨s1, s2, s3, s4, s5, s6, s7, s8⟩ := id bs
  have q1 : ¬ nI 1 = nI 0 := n10
  have q2 : ¬ nI 2 = nI 0 := by decide +kernel
  have q3 : ¬ nI 1 = nI 2 := by decide +kernel
  have q4 : ¬ nI 2 = nI 1 := by decide +kernel
  have q5 : ¬ nI 0 = nI 2 := by decide +kernel
  have q6 : ¬ nI 0 = nI 1 := by decide +kernel
  obtain ⟨pp, pf⟩ := F_placeOf_P n5 bs bp x
  obtain ⟨hp, hf⟩ := F_hasClaim n6 bs bc x
  have s7' : v.1 1 5 = w 6 := s7
  unfold yEnd
  cases e : pol w np x with
  | none =>
    rw [e] at pf
    have pf' : f_X6_placeOf_P 1 x v = Sum.inr "java/util/NoSuchElementException" := pf
    refine ⟨?_, fun _ => ?_, fun h => absurd h q3, fun h => absurd h q1⟩
    · simp only [p_X1_removePolicy_81, p_X1_removePolicy_71, p_X1_removePolicy_61, p_X1_removePolicy_8, p_X1_removePolicy_0, p_X1_removePolicy, pp, pf', reduceIte, if_true, if_false, true_and, and_true, false_and, and_false, and_self, not_true_eq_false, not_false_eq_true, true_implies, false_implies, implies_true, forall_const, Bool.false_eq_true, el_l, el_r, Sum.inl.injEq, reduceCtorEq, forall_eq, forall_eq']
    · simp only [f_X1_removePolicy_81, f_X1_removePolicy_71, f_X1_removePolicy_61, f_X1_removePolicy_8, f_X1_removePolicy_0, f_X1_removePolicy, pf', reduceIte, if_true, if_false, true_and, and_true, false_and, and_false, and_self, not_true_eq_false, not_false_eq_true, true_implies, false_implies, implies_true, forall_const, Bool.false_eq_true, el_l, el_r, Sum.inl.injEq, reduceCtorEq, forall_eq, forall_eq']
  | some k =>
    have hk := pol_lt e
    rw [e] at pf
    have pf' : f_X6_placeOf_P 1 x v = Sum.inl (nI k) := pf
    obtain ⟨rp, rf⟩ := K_refundAt n5 bp wp hk
    cases hh : hcl w nc x with
    | true =>
      have hlt : ¬ f_X11_find 13 12 (v.1 11 1) x v < 0 := fun h => by rw [hf, hh] at h; cases h
      refine ⟨?_, fun h => absurd h q4, fun _ => ?_, fun h => absurd h q2⟩
      · simp only [p_X1_removePolicy_81, p_X1_removePolicy_71, p_X1_removePolicy_61, p_X1_removePolicy_8, p_X1_removePolicy_0, p_X1_removePolicy, pp, pf', hp, hlt, Nat.reduceAdd, reduceIte, if_true, if_false, true_and, and_true, false_and, and_false, and_self, not_true_eq_false, not_false_eq_true, true_implies, false_implies, implies_true, forall_const, Bool.false_eq_true, el_l, el_r, Sum.inl.injEq, reduceCtorEq, forall_eq, forall_eq']
      · simp only [f_X1_removePolicy_81, f_X1_removePolicy_71, f_X1_removePolicy_61, f_X1_removePolicy_8, f_X1_removePolicy_0, f_X1_removePolicy, pf', hlt, Nat.reduceAdd, reduceIte, if_true, if_false, true_and, and_true, false_and, and_false, and_self, not_true_eq_false, not_false_eq_true, true_implies, false_implies, implies_true, forall_const, Bool.false_eq_true, el_l, el_r, Sum.inl.injEq, reduceCtorEq, forall_eq, forall_eq']
    | false =>
      have hlt : f_X11_find 13 12 (v.1 11 1) x v < 0 := hf.mpr hh
      obtain ⟨tp, tf⟩ := T_remove_P v s1 hk n5
      have hb : f_X1_removePolicy 1 x v = (Sum.inl (bck w k), cEnd v np k (bck w k)) := by
        unfold cEnd
        simp (disch := omega) only [f_X1_removePolicy_81, f_X1_removePolicy_71, f_X1_removePolicy_61, f_X1_removePolicy_8, f_X1_removePolicy_0, f_X1_removePolicy, pf', hlt, Nat.reduceAdd, reduceIte, if_true, if_false, true_and, and_true, false_and, and_false, and_self, not_true_eq_false, not_false_eq_true, true_implies, false_implies, implies_true, forall_const, Bool.false_eq_true, el_l, el_r, Sum.inl.injEq, reduceCtorEq, forall_eq, forall_eq', s7', rf, tf, cRmP, vM_rw, vRow_row, vRow_eq, vRow_ne, upd_ne]
      refine ⟨?_, fun h => absurd h q6, fun h => absurd h q5, fun _ => ⟨k, _, rfl, hb, cEnd_Fr _ _ _ _, ?_⟩⟩
      · simp only [p_X1_removePolicy_81, p_X1_removePolicy_71, p_X1_removePolicy_61, p_X1_removePolicy_8, p_X1_removePolicy_0, p_X1_removePolicy, pp, pf', hp, hlt, Nat.reduceAdd, s7', rp, tp, reduceIte, if_true, if_false, true_and, and_true, false_and, and_false, and_self, not_true_eq_false, not_false_eq_true, true_implies, false_implies, implies_true, forall_const, Bool.false_eq_true, el_l, el_r, Sum.inl.injEq, reduceCtorEq, forall_eq, forall_eq']
      have m0 : ∀ i, i < 8 → ¬ i = 0 → ¬ i = 7 → mEnd w np k i = w i := fun i h1 h2 h3 => by rw [mEnd_lo _ h1, upd_ne h2, upd_ne h3]
      have mp : ∀ i o, i + 1 < np → o < 8 → mEnd w np k (8 + 8 * i + o) = if i < k then w (8 + 8 * i + o) else w (8 + 8 * (i + 1) + o) := fun i o h1 h2 => mEnd_p w h1 h2
      have mp0 : ∀ i, i + 1 < np → mEnd w np k (8 + 8 * i) = if i < k then w (8 + 8 * i) else w (8 + 8 * (i + 1)) := fun i h1 => mp i 0 h1 (by omega)
      have hid := fid_some e
      refine ⟨⟨?_, ?_, ?_, ?_, by omega, n6, n7, n8⟩, ?_, ⟨?_, ?_⟩, ?_, ?_, ?_, ?_, ?_, ?_, ?_, ?_, ?_, ?_, ?_, ?_⟩
      · rw [mEnd_lo _ (by omega), upd_is rfl]
      · rw [m0 1 (by omega) (by omega) (by omega)]; exact n2
      · rw [m0 2 (by omega) (by omega) (by omega)]; exact n3
      · rw [m0 3 (by omega) (by omega) (by omega)]; exact n4
      · unfold WFs at hs ⊢
        rw [m0 4 (by omega) (by omega) (by omega), m0 5 (by omega) (by omega) (by omega), m0 6 (by omega) (by omega) (by omega)]
        omega
      · intro i hi
        unfold WFp1
        rw [m0 4 (by omega) (by omega) (by omega), mp0 i (by omega), mp i 1 (by omega) (by omega), mp i 2 (by omega) (by omega), mp i 3 (by omega) (by omega), mp i 4 (by omega) (by omega), mp i 5 (by omega) (by omega), mp i 6 (by omega) (by omega)]
        by_cases hik : i < k
        · have h1 := wp.1 i (by omega)
          unfold WFp1 at h1
          simp only [if_pos hik]
          omega
        · have h1 := wp.1 (i + 1) (by omega)
          unfold WFp1 at h1
          simp only [if_neg hik]
          omega
      · intro j i hj hi
        rw [mp0 i (by omega), mp0 j (by omega)]
        by_cases h1 : i < k
        · rw [if_pos h1, if_pos (by omega)]
          exact wp.2 j i hj (by omega)
        · rw [if_neg h1]
          by_cases h2 : j < k
          · rw [if_pos h2]
            exact wp.2 j (i + 1) (by omega) (by omega)
          · rw [if_neg h2]
            exact wp.2 (j + 1) (i + 1) (by omega) (by omega)
      · refine WFc_congr n6 (by rw [m0 5 (by omega) (by omega) (by omega)]; exact Int.le_refl _) (by rw [m0 6 (by omega) (by omega) (by omega)]; exact Int.le_refl _) (fun i q hi hq hqi => ?_) (fun i hi _ => mEnd_o _ hi n5 (by omega)) wc
        have hqk : ¬ q = k := fun e2 => by
          subst e2
          exact hcl_f hh i hi (by rw [← hqi]; exact hid.2)
        by_cases hlt2 : q < k
        · exact ⟨q, by omega, by rw [mp0 q (by omega), if_pos hlt2]⟩
        · exact ⟨q - 1, by omega, by rw [mp0 (q - 1) (by omega), if_neg (by omega), show q - 1 + 1 = q by omega]⟩
      · exact WFt_congr n7 (fun i hi _ => mEnd_o _ (by omega) n5 (by omega)) wt
      · exact WFe_congr (by omega) (fun i hi _ => mEnd_o _ (by omega) n5 (by omega)) we
      · exact WFo_congr n8 (fun i hi _ => mEnd_o _ (by omega) n5 (by omega)) wo
      · unfold BRs
        rw [m0 4 (by omega) (by omega) (by omega), m0 5 (by omega) (by omega) (by omega), m0 6 (by omega) (by omega) (by omega), mEnd_lo (i := 7) _ (by omega), upd_ne (i := 7) (by omega), upd_eq]
        unfold cEnd
        simp (disch := omega) only [Nat.reduceAdd, vRow_eq, vRow_ne, upd_is, upd_ne]
        exact ⟨trivial, s2, s3, s4, s5, s6, s7, by rw [show v.1 1 6 = w 7 from s8]⟩
      · intro i hi
        rw [mp0 i (by omega), mp i 1 (by omega) (by omega), mp i 2 (by omega) (by omega), mp i 3 (by omega) (by omega), mp i 4 (by omega) (by omega), mp i 5 (by omega) (by omega), mp i 6 (by omega) (by omega)]
        unfold cEnd
        simp (disch := omega) only [Nat.reduceAdd, vRow_eq, vRow_ne, gap_i]
        by_cases hik : i < k
        · simp only [if_pos hik]
          exact bp i (by omega)
        · simp only [if_neg hik]
          exact bp (i + 1) (by omega)
      · exact BRc_congr n6 (fun o h1 _ => cEnd_o _ _ _ _ (by omega)) (fun i hi _ => mEnd_o _ hi n5 (by omega)) bc
      · exact BRt_congr n7 (fun o h1 _ => cEnd_o _ _ _ _ (by omega)) (fun i hi _ => mEnd_o _ (by omega) n5 (by omega)) bt
      · exact BRe_congr (fun o h1 _ => cEnd_o _ _ _ _ (by omega)) (fun i hi _ => mEnd_o _ (by omega) n5 (by omega)) be
      · exact BRo_congr n8 (fun o h1 _ => cEnd_o _ _ _ _ (by omega)) (fun i hi _ => mEnd_o _ (by omega) n5 (by omega)) bo
      · refine ⟨?_, fun j hj => ?_⟩
        · have hb := bk.1
          unfold cEnd
          simp (disch := omega) only [vRow_eq, upd_is, upd_ne]
          rw [hb]
          generalize v.1 1 7 = r7
          generalize v.1 1 8 = r8
          generalize v.1 1 9 = r9
          generalize v.1 1 10 = r10
          generalize v.1 1 11 = r11
          generalize bck w k = bb
          grind
        · rw [cEnd_o _ _ _ _ (by omega), mEnd_o _ (by omega) n5 (by omega), sI_congr (g := fun i => prt w i j) fun i hi => by unfold prt; rw [mEnd_o _ (by omega) n5 (by omega)]]
          exact bk.2 j hj
      · exact chars_congr (cEnd_o _ _ _ _ (by omega)) bx
