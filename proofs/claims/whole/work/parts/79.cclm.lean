/-! the class' claims: made -/
theorem nar_isC {c : Int32} (h : isC c = true) : vp_nar .char c = c := by
  unfold isC at h
  rw [Bool.or_eq_true, Bool.or_eq_true, Bool.or_eq_true, decide_eq_true_iff, decide_eq_true_iff, decide_eq_true_iff, decide_eq_true_iff] at h
  rcases h with ((rfl | rfl) | rfl) | rfl <;> rfl
theorem F_X1_deductible {c : Int32} (d : Int32) (v : gV) (h : isC c = true) : f_X1_deductible c d v = ded c d := by
  have q1 : ¬ nI 114 = nI 103 := by decide +kernel
  have q2 : ¬ nI 114 = nI 119 := by decide +kernel
  have q3 : ¬ nI 114 = nI 102 := by decide +kernel
  have q4 : ¬ nI 119 = nI 103 := by decide +kernel
  have q5 : ¬ nI 119 = nI 114 := by decide +kernel
  have q6 : ¬ nI 102 = nI 103 := by decide +kernel
  have q7 : ¬ nI 102 = nI 119 := by decide +kernel
  have q8 : ¬ nI 102 = nI 114 := by decide +kernel
  unfold isC at h
  rw [Bool.or_eq_true, Bool.or_eq_true, Bool.or_eq_true, decide_eq_true_iff, decide_eq_true_iff, decide_eq_true_iff, decide_eq_true_iff] at h
  unfold ded
  rcases h with ((rfl | rfl) | rfl) | rfl <;> simp only [f_X1_deductible_37, f_X1_deductible_0, f_X1_deductible, li_0, li_1, li_2, li_3, li_4, li_5, li_6, li_7, li_8, li_9, li_10, li_11, li_12, li_29, li_30, li_32, li_33, li_35, li_42, li_43, li_45, li_47, li_48, li_50, li_57, li_58, li_59, li_60, li_61, li_63, li_64, li_67, li_68, li_72, li_78, li_79, li_80, li_97, li_99, li_100, li_101, li_102, li_103, li_105, li_108, li_109, li_110, li_111, li_112, li_114, li_115, li_116, li_117, li_118, li_119, li_120, li_121, li_126, li_216, li_232, li_240, li_264, li_300, li_1000, li_1000000, li_2147483647, q1, q2, q3, q4, q5, q6, q7, q8, if_true, if_false]
theorem P_X1_deductible (c d : Int32) (v : gV) : p_X1_deductible c d v := by
  have q1 : ¬ (10 : Int32) = 0 := by decide +kernel
  have q2 : ¬ (4 : Int32) = 0 := by decide +kernel
  simp only [p_X1_deductible_37, p_X1_deductible_0, p_X1_deductible, q1, q2, not_false_eq_true, implies_true, and_self]
theorem ded_b {c d : Int32} (h1 : isC c = true) (h2 : inb d (nI 1) (nI 99) = true) : -30 ≤ (d - ded c d).toInt ∧ (d - ded c d).toInt ≤ 99 := by
  rw [inb_t, tI (by omega), tI (by omega)] at h2
  have t0 : (nI 0).toInt = 0 := tI (by omega)
  have t1 : (nI 1).toInt = 1 := tI (by omega)
  have t2 : (nI 2).toInt = 2 := tI (by omega)
  have t4 : (nI 4).toInt = 4 := tI (by omega)
  have t9 : (nI 9).toInt = 9 := tI (by omega)
  have t10 : (nI 10).toInt = 10 := tI (by omega)
  have hd : 0 ≤ (ded c d).toInt ∧ (ded c d).toInt ≤ 26 := by
    unfold ded
    by_cases a1 : c = nI 103
    · rw [if_pos a1, t2]; omega
    · rw [if_neg a1]
      by_cases a2 : c = nI 114
      · rw [if_pos a2, t0]; omega
      · rw [if_neg a2]
        by_cases a3 : c = nI 119
        · rw [if_pos a3, ti_div (ne_neg1 (by omega)), ti_add (by omega) (by omega), t9, t10, Int.tdiv_eq_ediv_of_nonneg (by omega)]
          omega
        · have e : (d / nI 4).toInt = d.toInt / 4 := by rw [ti_div (ne_neg1 (by omega)), t4, Int.tdiv_eq_ediv_of_nonneg (by omega)]
          rw [if_neg a3, ti_add (by omega) (by omega), e, t1]
          omega
  rw [ti_sub (by omega) (by omega)]
  omega
theorem amo_b {w : Nat → Int32} {k : Nat} {c d : Int32} (h1 : isC c = true) (h2 : inb d (nI 1) (nI 99) = true) : (amo w k c d).toInt ≤ 99 := by
  have := ded_b h1 h2
  unfold amo
  by_cases h : d - ded c d ≤ w (8 + 8 * k + 1) - w (8 + 8 * k + 6)
  · rw [if_pos h]; omega
  · rw [if_neg h]
    rw [i_le] at h
    omega
theorem amo_cl (x y : Int32) : (if x < y then x else y) = if y ≤ x then y else x := by
  by_cases h : x < y
  · rw [if_pos h, if_neg (by rw [i_le]; rw [i_lt] at h; omega)]
  · rw [if_neg h, if_pos (by rw [i_le]; rw [i_lt] at h; omega)]
theorem K_takePlace_C (v : gV) {n : Nat} (h : v.1 11 1 = nI n) (hn : n < 12) : p_X6_takePlace_C 1 v ∧ f_X6_takePlace_C 1 v = (Sum.inl (nI n), vRow (vRow v 12 (upd (v.1 12) n (v.1 11 2))) 11 (upd (upd (v.1 11) 2 (v.1 11 2 + nI 1)) 1 (nI (n + 1)))) := by
  have hx : inx (nI n) (nI 12) = true := inx_nI (by omega) hn
  constructor
  · simp (disch := omega) only [p_X6_takePlace_C_43, p_X6_takePlace_C_33, p_X6_takePlace_C_23, p_X6_takePlace_C_12, p_X6_takePlace_C_0, p_X6_takePlace_C, P_X11_freePlace, F_X11_freePlace, Nat.reduceAdd, h, hx, reduceIte, if_true, if_false, true_and, and_true, false_and, and_false, and_self, not_true_eq_false, not_false_eq_true, true_implies, false_implies, implies_true, forall_const, Bool.false_eq_true, el_l, el_r, Sum.inl.injEq, reduceCtorEq, forall_eq, forall_eq', li_0, li_1, li_2, li_3, li_4, li_5, li_6, li_7, li_8, li_9, li_10, li_11, li_12, li_29, li_30, li_32, li_33, li_35, li_42, li_43, li_45, li_47, li_48, li_50, li_57, li_58, li_59, li_60, li_61, li_63, li_64, li_67, li_68, li_72, li_78, li_79, li_80, li_97, li_99, li_100, li_101, li_102, li_103, li_105, li_108, li_109, li_110, li_111, li_112, li_114, li_115, li_116, li_117, li_118, li_119, li_120, li_121, li_126, li_216, li_232, li_240, li_264, li_300, li_1000, li_1000000, li_2147483647, nI_add, nI_mul, cl_n, vi_n, sub_n, vM_rw, vRow_row, vRow_eq, vRow_ne, upd_is, upd_ne]
  · simp (disch := omega) only [f_X6_takePlace_C_43, f_X6_takePlace_C_33, f_X6_takePlace_C_23, f_X6_takePlace_C_12, f_X6_takePlace_C_0, f_X6_takePlace_C, F_X11_freePlace, Nat.reduceAdd, h, hx, reduceIte, if_true, if_false, true_and, and_true, false_and, and_false, and_self, not_true_eq_false, not_false_eq_true, true_implies, false_implies, implies_true, forall_const, Bool.false_eq_true, el_l, el_r, Sum.inl.injEq, reduceCtorEq, forall_eq, forall_eq', li_0, li_1, li_2, li_3, li_4, li_5, li_6, li_7, li_8, li_9, li_10, li_11, li_12, li_29, li_30, li_32, li_33, li_35, li_42, li_43, li_45, li_47, li_48, li_50, li_57, li_58, li_59, li_60, li_61, li_63, li_64, li_67, li_68, li_72, li_78, li_79, li_80, li_97, li_99, li_100, li_101, li_102, li_103, li_105, li_108, li_109, li_110, li_111, li_112, li_114, li_115, li_116, li_117, li_118, li_119, li_120, li_121, li_126, li_216, li_232, li_240, li_264, li_300, li_1000, li_1000000, li_2147483647, nI_add, nI_mul, cl_n, vi_n, sub_n, vM_rw, vRow_row, vRow_eq, vRow_ne, upd_is, upd_ne]
/-- a claim's row laid, no coins looked at yet -/
def cAdd (v : gV) (n : Nat) (x c a d : Int32) : gV := vRow (vRow (vRow (vRow (vRow (vRow (vRow (vRow v 12 (upd (v.1 12) n (v.1 11 2))) 11 (upd (upd (v.1 11) 2 (v.1 11 2 + nI 1)) 1 (nI (n + 1)))) 13 (upd (v.1 13) n x)) 14 (upd (v.1 14) n c)) 15 (upd (v.1 15) n a)) 16 (upd (v.1 16) n (nI 0))) 17 (upd (v.1 17) n d)) (19 + n) (fil (v.1 (19 + n)) (nI 0) 0 4)
theorem T_add_C (x c a d : Int32) (v : gV) {n : Nat} (h : v.1 11 1 = nI n) (hn : n < 12) (hc : vp_nar .char c = c) : p_X2_add 1 x c a d v ∧ f_X2_add 1 x c a d v = (Sum.inl (nI n), cAdd v n x c a d) := by
  have hk := K_takePlace_C v h hn
  unfold cAdd
  constructor
  · simp (disch := omega) only [p_X2_add_58, p_X2_add_47, p_X2_add_38, p_X2_add_30, p_X2_add_22, p_X2_add_14, p_X2_add_4, p_X2_add_0, p_X2_add, hk, reduceIte, if_true, if_false, true_and, and_true, false_and, and_false, and_self, not_true_eq_false, not_false_eq_true, true_implies, false_implies, implies_true, forall_const, Bool.false_eq_true, el_l, el_r, Sum.inl.injEq, reduceCtorEq, forall_eq, forall_eq', Nat.reduceAdd, li_0, li_1, li_2, li_3, li_4, li_5, li_6, li_7, li_8, li_9, li_10, li_11, li_12, li_29, li_30, li_32, li_33, li_35, li_42, li_43, li_45, li_47, li_48, li_50, li_57, li_58, li_59, li_60, li_61, li_63, li_64, li_67, li_68, li_72, li_78, li_79, li_80, li_97, li_99, li_100, li_101, li_102, li_103, li_105, li_108, li_109, li_110, li_111, li_112, li_114, li_115, li_116, li_117, li_118, li_119, li_120, li_121, li_126, li_216, li_232, li_240, li_264, li_300, li_1000, li_1000000, li_2147483647, nI_add, nI_mul, cl_n, vi_n, sub_n, vM_rw, vRow_row, vRow_eq, vRow_ne, hc, P_J7_fill, F_J7_fill]
  · simp (disch := omega) only [f_X2_add_58, f_X2_add_47, f_X2_add_38, f_X2_add_30, f_X2_add_22, f_X2_add_14, f_X2_add_4, f_X2_add_0, f_X2_add, hk, reduceIte, if_true, if_false, true_and, and_true, false_and, and_false, and_self, not_true_eq_false, not_false_eq_true, true_implies, false_implies, implies_true, forall_const, Bool.false_eq_true, el_l, el_r, Sum.inl.injEq, reduceCtorEq, forall_eq, forall_eq', Nat.reduceAdd, li_0, li_1, li_2, li_3, li_4, li_5, li_6, li_7, li_8, li_9, li_10, li_11, li_12, li_29, li_30, li_32, li_33, li_35, li_42, li_43, li_45, li_47, li_48, li_50, li_57, li_58, li_59, li_60, li_61, li_63, li_64, li_67, li_68, li_72, li_78, li_79, li_80, li_97, li_99, li_100, li_101, li_102, li_103, li_105, li_108, li_109, li_110, li_111, li_112, li_114, li_115, li_116, li_117, li_118, li_119, li_120, li_121, li_126, li_216, li_232, li_240, li_264, li_300, li_1000, li_1000000, li_2147483647, nI_add, nI_mul, cl_n, vi_n, sub_n, vM_rw, vRow_row, vRow_eq, vRow_ne, F_J7_fill]
theorem cAdd_ne (v : gV) {n : Nat} (x c a d : Int32) {i : Nat} (h : i < 11 ∨ (17 < i ∧ ¬ i = 19 + n)) : (cAdd v n x c a d).1 i = v.1 i := by
  unfold cAdd
  simp (disch := omega) only [vRow_ne]
def cClm (v : gV) (w : Nat → Int32) (n nt k A : Nat) (x c : Int32) : gV := vRow (cVec (cAdd v n x c (nI A) (v.1 1 5)) 34 (19 + n) (lp (bNext w nt) A 1 (fil (v.1 (19 + n)) (nI 0) 0 4, v.1 34, nI 0))) 9 (upd (v.1 9) k (v.1 9 k + nI A))
/-- what leads to a class' throw at a claim -/
def eClm (y : Int32) : String := if y = nI 1 then "java/util/NoSuchElementException" else if y = nI 2 then "java/lang/IllegalArgumentException" else if y = nI 3 then "java/lang/IllegalStateException" else "java/lang/UnsupportedOperationException"
theorem putL_at (w L : Nat → Int32) {n : Nat} (hn : n ≤ 4) : (∀ o, o < n → putL w L 0 n (216 + 4 * o + 2) = L o) ∧ ∀ j, (∀ o, o < n → ¬ j = 216 + 4 * o + 2) → putL w L 0 n j = w j := by
  unfold putL
  have h := lp_inv (g := fun o w => upd w (216 + 4 * o + 2) (L o)) (fun i (u : Nat → Int32) => (∀ o, o < i → u (216 + 4 * o + 2) = L o) ∧ ∀ j, (∀ o, o < i → ¬ j = 216 + 4 * o + 2) → u j = w j) (n - 0) 0 w ⟨fun o ho => by omega, fun j _ => rfl⟩ (fun i u _ _ hu => ⟨fun o ho => by
    by_cases e : o = i
    · subst e
      exact upd_eq _ _ _
    · show upd u (216 + 4 * i + 2) (L i) (216 + 4 * o + 2) = L o
      rw [upd_ne (by omega)]
      exact hu.1 o (by omega), fun j hj => by
    show upd u (216 + 4 * i + 2) (L i) j = w j
    rw [upd_ne (hj i (by omega))]
    exact hu.2 j fun o ho => hj o (by omega)⟩)
  rw [Nat.zero_add] at h
  exact h
section MCLM
variable {w : Nat → Int32} {n nt k A : Nat} {x c : Int32} {b : bSt}
theorem mClm_lo (hn : n < 12) (hk : k < 8) (ht : nt ≤ 4) {i : Nat} (h : i < 72 ∨ 232 ≤ i) (h1 : ¬ i = 1) (h5 : ¬ i = 5) (h6 : ¬ i = 8 + 8 * k + 6) : mClm w n nt k A x c b i = w i := by
  unfold mClm clEnd
  rw [upd_ne h5, upd_ne h1, upd_ne h6, (putL_at _ _ ht).2 i (fun o ho => by omega), put4, if_neg (by omega)]
  simp (disch := omega) only [upd_ne]
theorem mClm_1 : mClm w n nt k A x c b 1 = nI (n + 1) := by
  unfold mClm clEnd
  rw [upd_ne (by omega), upd_eq]
theorem mClm_5 (hn : n < 12) (hk : k < 8) (ht : nt ≤ 4) : mClm w n nt k A x c b 5 = w 5 + nI 1 := by
  unfold mClm clEnd
  rw [upd_eq, (putL_at _ _ ht).2 5 (fun o ho => by omega), put4, if_neg (by omega)]
  simp (disch := omega) only [upd_ne]
theorem mClm_u (hn : n < 12) (hk : k < 8) (ht : nt ≤ 4) : mClm w n nt k A x c b (8 + 8 * k + 6) = w (8 + 8 * k + 6) + nI A := by
  unfold mClm clEnd
  rw [upd_ne (by omega), upd_ne (by omega), upd_eq, (putL_at _ _ ht).2 _ (fun o ho => by omega), put4, if_neg (by omega)]
  simp (disch := omega) only [upd_ne]
theorem mClm_c (hn : n < 12) (hk : k < 8) (ht : nt ≤ 4) {i : Nat} (h : 72 ≤ i) (h2 : i < 72 + 12 * n) : mClm w n nt k A x c b i = w i := by
  unfold mClm clEnd
  rw [upd_ne (by omega), upd_ne (by omega), upd_ne (by omega), (putL_at _ _ ht).2 i (fun o ho => by omega), put4, if_neg (by omega)]
  simp (disch := omega) only [upd_ne]
theorem mClm_n (hn : n < 12) (hk : k < 8) (ht : nt ≤ 4) {o : Nat} (ho : o < 6) : mClm w n nt k A x c b (72 + 12 * n + o) = upd (upd (upd (upd (upd (upd w (72 + 12 * n + 0) (w 5)) (72 + 12 * n + 1) x) (72 + 12 * n + 2) c) (72 + 12 * n + 3) (nI A)) (72 + 12 * n + 4) (nI 0)) (72 + 12 * n + 5) (w 6) (72 + 12 * n + o) := by
  unfold mClm clEnd
  rw [upd_ne (by omega), upd_ne (by omega), upd_ne (by omega), (putL_at _ _ ht).2 _ (fun o ho => by omega), put4, if_neg (by omega)]
theorem mClm_b (hn : n < 12) (hk : k < 8) (ht : nt ≤ 4) {o : Nat} (ho : o < 4) : mClm w n nt k A x c b (72 + 12 * n + (6 + o)) = b.1 o := by
  unfold mClm clEnd
  rw [upd_ne (by omega), upd_ne (by omega), upd_ne (by omega), (putL_at _ _ ht).2 _ (fun o ho => by omega), put4, if_pos (by omega), show 72 + 12 * n + (6 + o) - (72 + 12 * n + 6) = o by omega]
theorem mClm_t (hn : n < 12) (hk : k < 8) (ht : nt ≤ 4) {o j : Nat} (ho : o < nt) (hj : j < 2) : mClm w n nt k A x c b (216 + 4 * o + j) = w (216 + 4 * o + j) := by
  unfold mClm clEnd
  rw [upd_ne (by omega), upd_ne (by omega), upd_ne (by omega), (putL_at _ _ ht).2 _ (fun o ho => by omega), put4, if_neg (by omega)]
  simp (disch := omega) only [upd_ne]
theorem mClm_t2 (hn : n < 12) (hk : k < 8) (ht : nt ≤ 4) {o : Nat} (ho : o < nt) : mClm w n nt k A x c b (216 + 4 * o + 2) = b.2.1 o := by
  unfold mClm clEnd
  rw [upd_ne (by omega), upd_ne (by omega), upd_ne (by omega), (putL_at _ _ ht).1 o ho]
end MCLM
theorem cClm_Fr (v : gV) (w : Nat → Int32) {n nt k A : Nat} (x c : Int32) (hn : n < 12) : Fr v (cClm v w n nt k A x c) := by
  unfold cClm cVec cAdd
  exact ⟨rfl, fun j hj => by simp (disch := omega) only [vRow_ne]⟩
theorem cClm_ne (v : gV) (w : Nat → Int32) {n nt k A : Nat} (x c : Int32) {i : Nat} (h : i < 9 ∨ i = 10 ∨ (17 < i ∧ ¬ i = 19 + n ∧ ¬ i = 34)) : (cClm v w n nt k A x c).1 i = v.1 i := by
  unfold cClm
  rw [vRow_ne _ _ (by omega), cVec_ne _ _ (by omega) (by omega), cAdd_ne _ _ _ _ _ (by omega)]
theorem yClm_0 {w : Nat → Int32} {np : Nat} {x c d : Int32} (h : yClm w np x c d = nI 0) : ∃ k, pol w np x = some k ∧ isC c = true ∧ inb d (nI 1) (nI 99) = true ∧ act w k = true ∧ ¬ w 1 = nI 12 ∧ nI 0 < amo w k c d := by
  have q1 : ¬ nI 1 = nI 0 := n10
  have q2 : ¬ nI 2 = nI 0 := by decide +kernel
  have q3 : ¬ nI 3 = nI 0 := by decide +kernel
  have q4 : ¬ nI 4 = nI 0 := by decide +kernel
  unfold yClm at h
  cases e : pol w np x with
  | none => rw [e] at h; exact absurd h q1
  | some k =>
    rw [e] at h
    have h : (if isC c = true then (if inb d (nI 1) (nI 99) = true then (if act w k = true then (if w 1 = nI 12 then nI 3 else if nI 0 < amo w k c d then nI 0 else nI 4) else nI 3) else nI 2) else nI 2) = nI 0 := h
    refine ⟨k, rfl, ?_⟩
    by_cases a1 : isC c = true
    · rw [if_pos a1] at h
      by_cases a2 : inb d (nI 1) (nI 99) = true
      · rw [if_pos a2] at h
        by_cases a3 : act w k = true
        · rw [if_pos a3] at h
          by_cases a4 : w 1 = nI 12
          · rw [if_pos a4] at h; exact absurd h q3
          · rw [if_neg a4] at h
            by_cases a5 : nI 0 < amo w k c d
            · exact ⟨a1, a2, a3, a4, a5⟩
            · rw [if_neg a5] at h; exact absurd h q4
        · rw [if_neg a3] at h; exact absurd h q3
      · rw [if_neg a2] at h; exact absurd h q2
    · rw [if_neg a1] at h; exact absurd h q2
theorem K_makeClaim (x c d : Int32) (v : gV) {w : Nat → Int32} {B np nc nt no : Nat} (hB : B < 40000) (hnar : vp_nar .char c = c) (h : BR B v 1 w np nc nt no) (hy : yClm w np x c d = nI 0) : p_X1_makeClaim 1 x c d v ∧ nc < 12 ∧ ∃ k A v', pol w np x = some k ∧ amo w k c d = nI A ∧ A < 100 ∧ f_X1_makeClaim 1 x c d v = (Sum.inl (w 5), v') ∧ Fr v v' ∧ ∀ B0 L0, BR (B + 1) v' 1 (mClm w nc nt k A x c (brs w nt A B0 L0)) np (nc + 1) nt no := by
  obtain ⟨hw, hs, wp, wc, wt, we, wo, bs, bp, bc, bt, be, bo, bk, bx⟩ := h
  obtain ⟨n1, n2, n3, n4, n5, n6, n7, n8⟩ := id hw
  obtain ⟨s1, s2, s3, s4, s5, s6, s7, s8⟩ := id bs
  obtain ⟨k, e, hc, hd, ha, h12, hpos⟩ := yClm_0 hy
  have hk := pol_lt e
  have hn : nc < 12 := by
    rw [n2, eq_n (by omega) (by omega)] at h12
    omega
  have t0 : (nI 0).toInt = 0 := tI (by omega)
  have t1 : (nI 1).toInt = 1 := tI (by omega)
  rw [i_lt, t0] at hpos
  have hub := amo_b (w := w) (k := k) hc hd
  obtain ⟨A, hA, eA⟩ := nI_ofI (m := 100) (x := amo w k c d) (by omega) (by omega)
  have tA : (nI A).toInt = A := tI (by omega)
  rw [eA, tA] at hpos hub
  obtain ⟨pp, pf⟩ := F_placeOf_P n5 bs bp x
  rw [e] at pf
  have pf' : f_X6_placeOf_P 1 x v = Sum.inl (nI k) := pf
  have s7' : v.1 1 5 = w 6 := s7
  have s3' : v.1 11 1 = nI nc := s3
  have s5' : v.1 31 6 = nI nt := s5
  have hfa := F_act n5 bp hk
  rw [ha, if_pos rfl] at hfa
  have hpa := P_X5_isActiveAt v (w 6) (k := k) (by omega)
  have b2 : v.1 4 k = w (8 + 8 * k + 1) := (bp k hk).2.1
  have b7 : v.1 9 k = w (8 + 8 * k + 6) := (bp k hk).2.2.2.2.2.2
  have hl : f_X5_leftAt 1 (nI k) v = w (8 + 8 * k + 1) - w (8 + 8 * k + 6) := by
    simp (disch := omega) only [f_X5_leftAt_0, f_X5_leftAt, Nat.reduceAdd, cl_n, b2, b7]
  have hlp : p_X5_leftAt 1 (nI k) v := by
    simp (disch := omega) only [p_X5_leftAt_0, p_X5_leftAt, vi_n, and_self]
  have hdd := F_X1_deductible d v hc
  have hdp := P_X1_deductible c d v
  have ham : (if w (8 + 8 * k + 1) - w (8 + 8 * k + 6) < d - ded c d then w (8 + 8 * k + 1) - w (8 + 8 * k + 6) else d - ded c d) = nI A := by
    rw [amo_cl]
    exact eA
  have hcp := P_X11_isCause c v
  have hcf := F_X11_isCause c v
  rw [hc, if_pos rfl] at hcf
  have hlt : nI nc < nI 12 := nI_lt hn (by omega)
  have h1A : nI 1 ≤ nI A := nI_le (by omega) (by omega)
  obtain ⟨ap, af⟩ := T_add_C x c (nI A) (w 6) v s3' hn hnar
  obtain ⟨gp, gf⟩ := K_bearCoins (cAdd v nc x c (nI A) (w 6)) w (n := nt) (A := A) (j2 := 34) (j3 := 19 + nc) n7 (by omega) (by omega) (by omega) (by omega) (by rw [cAdd_ne _ _ _ _ _ (by omega)]; exact s5') (fun o ho => by rw [cAdd_ne _ _ _ _ _ (by omega), cAdd_ne _ _ _ _ _ (by omega)]; exact ⟨(bt o ho).1, (bt o ho).2.1⟩) (fun o ho => by
    rw [cAdd_ne _ _ _ _ _ (by omega), show v.1 34 o = _ from (bt o ho).2.2]
    exact (wt o ho).2.2.2.2)
  have r1 : (cAdd v nc x c (nI A) (w 6)).1 (19 + nc) = fil (v.1 (19 + nc)) (nI 0) 0 4 := vRow_eq _ _ _
  have r2 : (cAdd v nc x c (nI A) (w 6)).1 34 = v.1 34 := cAdd_ne _ _ _ _ _ (by omega)
  rw [r1, r2] at gf
  have hgen : ∀ s : bSt, (cVec (cAdd v nc x c (nI A) (w 6)) 34 (19 + nc) s).1 9 = v.1 9 ∧ (cVec (cAdd v nc x c (nI A) (w 6)) 34 (19 + nc) s).1 12 = upd (v.1 12) nc (v.1 11 2) := fun s => by
    rw [cVec_ne _ _ (by omega) (by omega), cVec_ne _ _ (by omega) (by omega), cAdd_ne _ _ _ _ _ (by omega)]
    refine ⟨rfl, ?_⟩
    unfold cAdd
    simp (disch := omega) only [vRow_eq, vRow_ne]
  have hfin : f_X1_makeClaim 1 x c d v = (Sum.inl (w 5), cClm v w nc nt k A x c) := by
    unfold cClm
    rw [s7']
    simp (disch := omega) only [f_X1_makeClaim_63, f_X1_makeClaim_168, f_X1_makeClaim_153, f_X1_makeClaim_125, f_X1_makeClaim_34, f_X1_makeClaim_8, f_X1_makeClaim_0, f_X1_makeClaim, pf', reduceIte, if_true, if_false, true_and, and_true, false_and, and_false, and_self, not_true_eq_false, not_false_eq_true, true_implies, false_implies, implies_true, forall_const, Bool.false_eq_true, el_l, el_r, Sum.inl.injEq, reduceCtorEq, forall_eq, forall_eq', hcf, li_0, li_1, li_2, li_3, li_4, li_5, li_6, li_7, li_8, li_9, li_10, li_11, li_12, li_29, li_30, li_32, li_33, li_35, li_42, li_43, li_45, li_47, li_48, li_50, li_57, li_58, li_59, li_60, li_61, li_63, li_64, li_67, li_68, li_72, li_78, li_79, li_80, li_97, li_99, li_100, li_101, li_102, li_103, li_105, li_108, li_109, li_110, li_111, li_112, li_114, li_115, li_116, li_117, li_118, li_119, li_120, li_121, li_126, li_216, li_232, li_240, li_264, li_300, li_1000, li_1000000, li_2147483647, n10, F_X11_checkedNumber, hd, Nat.reduceAdd, s7', hfa, s3', hlt, hdd, hl, ham, h1A, af, cl_n, gf, vM_rw, (hgen _).1, (hgen _).2, vRow_ne, upd_eq]
    rw [show v.1 11 2 = w 5 from s4]
  refine ⟨?_, hn, k, A, cClm v w nc nt k A x c, e, eA, hA, hfin, cClm_Fr v w x c hn, fun B0 L0 => ?_⟩
  · simp (disch := omega) only [p_X1_makeClaim_63, p_X1_makeClaim_168, p_X1_makeClaim_153, p_X1_makeClaim_125, p_X1_makeClaim_34, p_X1_makeClaim_8, p_X1_makeClaim_0, p_X1_makeClaim, pp, pf', reduceIte, if_true, if_false, true_and, and_true, false_and, and_false, and_self, not_true_eq_false, not_false_eq_true, true_implies, false_implies, implies_true, forall_const, Bool.false_eq_true, el_l, el_r, Sum.inl.injEq, reduceCtorEq, forall_eq, forall_eq', hcp, hcf, li_0, li_1, li_2, li_3, li_4, li_5, li_6, li_7, li_8, li_9, li_10, li_11, li_12, li_29, li_30, li_32, li_33, li_35, li_42, li_43, li_45, li_47, li_48, li_50, li_57, li_58, li_59, li_60, li_61, li_63, li_64, li_67, li_68, li_72, li_78, li_79, li_80, li_97, li_99, li_100, li_101, li_102, li_103, li_105, li_108, li_109, li_110, li_111, li_112, li_114, li_115, li_116, li_117, li_118, li_119, li_120, li_121, li_126, li_216, li_232, li_240, li_264, li_300, li_1000, li_1000000, li_2147483647, n10, F_X11_checkedNumber, P_X11_checkedNumber, hd, Nat.reduceAdd, s7', hpa, hfa, s3', hlt, hdp, hdd, hl, hlp, ham, h1A, ap, af, cl_n, vi_n, gp, gf]
  obtain ⟨q1, q2⟩ := bears_eq w (A := A) n7 (fil (v.1 (19 + nc)) (nI 0) 0 4) (v.1 34) B0 L0 (fun o ho => fil_in (by omega)) (fun o ho => (bt o ho).2.2)
  have hok := brs_ok (w := w) (n := nt) (A := A) (B := B0) (L := L0) n7 (by omega) wt
  generalize brs w nt A B0 L0 = bb at q1 q2 hok ⊢
  obtain ⟨o1, o2, o3, o4⟩ := hok
  obtain ⟨f1, f2, f3, f4, f5, f6⟩ := id hs
  have e5 : (w 5 + nI 1).toInt = (w 5).toInt + 1 := by rw [ti_add (by omega) (by omega), t1]
  have hpk := wp.1 k hk
  unfold WFp1 at hpk
  have eu : (w (8 + 8 * k + 6) + nI A).toInt = (w (8 + 8 * k + 6)).toInt + A := by rw [ti_add (by omega) (by omega), tA]
  have m5 : mClm w nc nt k A x c bb 5 = w 5 + nI 1 := mClm_5 hn (by omega) n7
  have mlo : ∀ i, i < 72 ∨ 232 ≤ i → ¬ i = 1 → ¬ i = 5 → ¬ i = 8 + 8 * k + 6 → mClm w nc nt k A x c bb i = w i := fun i h1 h2 h3 h4 => mClm_lo hn (by omega) n7 h1 h2 h3 h4
  have mu : mClm w nc nt k A x c bb (8 + 8 * k + 6) = w (8 + 8 * k + 6) + nI A := mClm_u hn (by omega) n7
  have mc : ∀ i, 72 ≤ i → i < 72 + 12 * nc → mClm w nc nt k A x c bb i = w i := fun i h1 h2 => mClm_c hn (by omega) n7 h1 h2
  have mb : ∀ o, o < 4 → mClm w nc nt k A x c bb (72 + 12 * nc + (6 + o)) = bb.1 o := fun o ho => mClm_b hn (by omega) n7 ho
  have mt : ∀ o j, o < nt → j < 2 → mClm w nc nt k A x c bb (216 + 4 * o + j) = w (216 + 4 * o + j) := fun o j ho hj => mClm_t hn (by omega) n7 ho hj
  have mt0 : ∀ o, o < nt → mClm w nc nt k A x c bb (216 + 4 * o) = w (216 + 4 * o) := fun o ho => mt o 0 ho (by omega)
  have mt2 : ∀ o, o < nt → mClm w nc nt k A x c bb (216 + 4 * o + 2) = bb.2.1 o := fun o ho => mClm_t2 hn (by omega) n7 ho
  have mn : ∀ o, o < 6 → mClm w nc nt k A x c bb (72 + 12 * nc + o) = upd (upd (upd (upd (upd (upd w (72 + 12 * nc + 0) (w 5)) (72 + 12 * nc + 1) x) (72 + 12 * nc + 2) c) (72 + 12 * nc + 3) (nI A)) (72 + 12 * nc + 4) (nI 0)) (72 + 12 * nc + 5) (w 6) (72 + 12 * nc + o) := fun o ho => mClm_n hn (by omega) n7 ho
  have mn0 : mClm w nc nt k A x c bb (72 + 12 * nc) = w 5 := by
    rw [show 72 + 12 * nc = 72 + 12 * nc + 0 by omega, mn 0 (by omega)]; simp (disch := omega) only [upd_is, upd_ne]
  have mn1 : mClm w nc nt k A x c bb (72 + 12 * nc + 1) = x := by rw [mn 1 (by omega)]; simp (disch := omega) only [upd_is, upd_ne]
  have mn2 : mClm w nc nt k A x c bb (72 + 12 * nc + 2) = c := by rw [mn 2 (by omega)]; simp (disch := omega) only [upd_is, upd_ne]
  have mn3 : mClm w nc nt k A x c bb (72 + 12 * nc + 3) = nI A := by rw [mn 3 (by omega)]; simp (disch := omega) only [upd_is, upd_ne]
  have mn4 : mClm w nc nt k A x c bb (72 + 12 * nc + 4) = nI 0 := by rw [mn 4 (by omega)]; simp (disch := omega) only [upd_is, upd_ne]
  have mn5 : mClm w nc nt k A x c bb (72 + 12 * nc + 5) = w 6 := by rw [mn 5 (by omega)]; simp (disch := omega) only [upd_is, upd_ne]
  have m1 : mClm w nc nt k A x c bb 1 = nI (nc + 1) := mClm_1
  have bnn : ∀ o, o < 4 → 0 ≤ (bb.1 o).toInt := fun o ho => by
    by_cases h : o < nt
    · exact (o1 o h).1
    · rw [o2 o ho (by omega), t0]
      omega
  generalize mClm w nc nt k A x c bb = w' at *
  have hid := fid_some e
  refine ⟨⟨?_, m1, ?_, ?_, n5, by omega, n7, n8⟩, ?_, ⟨?_, ?_⟩, ⟨?_, ?_⟩, ?_, ?_, ?_, ?_, ?_, ?_, ?_, ?_, ?_, ⟨?_, ?_⟩, ?_⟩
  · rw [mlo 0 (by omega) (by omega) (by omega) (by omega)]; exact n1
  · rw [mlo 2 (by omega) (by omega) (by omega) (by omega)]; exact n3
  · rw [mlo 3 (by omega) (by omega) (by omega) (by omega)]; exact n4
  · unfold WFs
    rw [mlo 4 (by omega) (by omega) (by omega) (by omega), m5, mlo 6 (by omega) (by omega) (by omega) (by omega), e5]
    omega
  · intro i hi
    have h1 := wp.1 i hi
    unfold WFp1 at h1 ⊢
    rw [mlo 4 (by omega) (by omega) (by omega) (by omega), mlo (8 + 8 * i) (by omega) (by omega) (by omega) (by omega), mlo (8 + 8 * i + 1) (by omega) (by omega) (by omega) (by omega), mlo (8 + 8 * i + 2) (by omega) (by omega) (by omega) (by omega), mlo (8 + 8 * i + 3) (by omega) (by omega) (by omega) (by omega), mlo (8 + 8 * i + 4) (by omega) (by omega) (by omega) (by omega), mlo (8 + 8 * i + 5) (by omega) (by omega) (by omega) (by omega)]
    by_cases e2 : i = k
    · subst e2
      rw [mu, eu]
      omega
    · rw [mlo (8 + 8 * i + 6) (by omega) (by omega) (by omega) (by omega)]
      omega
  · intro j i hj hi
    rw [mlo _ (by omega) (by omega) (by omega) (by omega), mlo _ (by omega) (by omega) (by omega) (by omega)]
    exact wp.2 j i hj hi
  · intro i hi
    by_cases e2 : i = nc
    · subst e2
      unfold WFc1
      rw [mn0, mn1, mn2, mn3, mn4, mn5, m5, e5, tA, t0, mlo 6 (by omega) (by omega) (by omega) (by omega)]
      have hprt : ∀ o, o < 4 → prt w' i o = (bb.1 o).toInt := fun o ho => by unfold prt; rw [mb o ho]
      refine ⟨by omega, by omega, ⟨k, hk, by rw [mlo _ (by omega) (by omega) (by omega) (by omega)]; exact hid.2⟩, hc, by omega, by omega, by omega, by omega, by omega, by omega, fun o ho => by rw [hprt o ho]; exact bnn o ho, by rw [sI_congr hprt]; exact o3, fun o ho h2 => by rw [mb o ho]; exact o2 o ho h2⟩
    · obtain ⟨a1, a2, ⟨q, hq, a3⟩, a4, a5, a6, a7, a8, a9, a10, a11, a12, a13⟩ := wc.1 i (by omega)
      have hprt : ∀ o, o < 4 → prt w' i o = prt w i o := fun o ho => by unfold prt; rw [mc _ (by omega) (by omega)]
      unfold WFc1
      rw [m5, e5, mlo 6 (by omega) (by omega) (by omega) (by omega), mc (72 + 12 * i) (by omega) (by omega), mc (72 + 12 * i + 1) (by omega) (by omega), mc (72 + 12 * i + 2) (by omega) (by omega), mc (72 + 12 * i + 3) (by omega) (by omega), mc (72 + 12 * i + 4) (by omega) (by omega), mc (72 + 12 * i + 5) (by omega) (by omega)]
      exact ⟨a1, by omega, ⟨q, hq, by rw [mlo _ (by omega) (by omega) (by omega) (by omega)]; exact a3⟩, a4, a5, a6, a7, a8, a9, a10, fun o ho => by rw [hprt o ho]; exact a11 o ho, by rw [sI_congr hprt]; exact a12, fun o ho h2 => by rw [mc _ (by omega) (by omega)]; exact a13 o ho h2⟩
  · intro j i hj hi
    rw [mc (72 + 12 * j) (by omega) (by omega)]
    by_cases e2 : i = nc
    · subst e2
      rw [mn0]
      exact (wc.1 j hj).2.1
    · rw [mc (72 + 12 * i) (by omega) (by omega)]
      exact wc.2 j i hj (by omega)
  · intro o ho
    have h1 := wt o ho
    rw [mt0 o ho, mt o 1 ho (by omega), mt2 o ho]
    exact ⟨h1.1, h1.2.1, h1.2.2.1, h1.2.2.2.1, (o1 o ho).2.1⟩
  · exact WFe_congr (by omega) (fun i hi _ => mlo i (by omega) (by omega) (by omega) (by omega)) we
  · exact WFo_congr n8 (fun i hi _ => mlo i (by omega) (by omega) (by omega) (by omega)) wo
  · unfold BRs
    rw [mlo 4 (by omega) (by omega) (by omega) (by omega), m5, mlo 6 (by omega) (by omega) (by omega) (by omega), mlo 7 (by omega) (by omega) (by omega) (by omega), cClm_ne (i := 1 + 1) _ _ _ _ (by omega), cClm_ne (i := 1 + 30) _ _ _ _ (by omega), cClm_ne (i := 1 + 45) _ _ _ _ (by omega), cClm_ne (i := 1) _ _ _ _ (by omega)]
    have h11 : (cClm v w nc nt k A x c).1 (1 + 10) = upd (upd (v.1 11) 2 (v.1 11 2 + nI 1)) 1 (nI (nc + 1)) := by
      unfold cClm
      rw [vRow_ne _ _ (by omega), cVec_ne _ _ (by omega) (by omega)]
      unfold cAdd
      simp (disch := omega) only [Nat.reduceAdd, vRow_eq, vRow_ne]
    rw [h11]
    exact ⟨s1, s2, upd_eq _ _ _, by rw [upd_ne (by omega), upd_eq, show v.1 11 2 = w 5 from s4], s5, s6, s7, s8⟩
  · intro i hi
    have h1 := bp i hi
    have h9 : (cClm v w nc nt k A x c).1 (1 + 8) = upd (v.1 9) k (v.1 9 k + nI A) := vRow_eq _ _ _
    rw [mlo (8 + 8 * i) (by omega) (by omega) (by omega) (by omega), mlo (8 + 8 * i + 1) (by omega) (by omega) (by omega) (by omega), mlo (8 + 8 * i + 2) (by omega) (by omega) (by omega) (by omega), mlo (8 + 8 * i + 3) (by omega) (by omega) (by omega) (by omega), mlo (8 + 8 * i + 4) (by omega) (by omega) (by omega) (by omega), mlo (8 + 8 * i + 5) (by omega) (by omega) (by omega) (by omega), cClm_ne (i := 1 + 2) _ _ _ _ (by omega), cClm_ne (i := 1 + 3) _ _ _ _ (by omega), cClm_ne (i := 1 + 4) _ _ _ _ (by omega), cClm_ne (i := 1 + 5) _ _ _ _ (by omega), cClm_ne (i := 1 + 6) _ _ _ _ (by omega), cClm_ne (i := 1 + 7) _ _ _ _ (by omega), h9]
    refine ⟨h1.1, h1.2.1, h1.2.2.1, h1.2.2.2.1, h1.2.2.2.2.1, h1.2.2.2.2.2.1, ?_⟩
    by_cases e2 : i = k
    · subst e2
      rw [upd_eq, mu, b7]
    · rw [upd_ne e2, mlo (8 + 8 * i + 6) (by omega) (by omega) (by omega) (by omega)]
      exact h1.2.2.2.2.2.2
  · intro i hi
    have hr : ∀ j, 11 < j → j < 18 → (cClm v w nc nt k A x c).1 j = (cAdd v nc x c (nI A) (v.1 1 5)).1 j := fun j h1 h2 => by
      unfold cClm
      rw [vRow_ne _ _ (by omega), cVec_ne _ _ (by omega) (by omega)]
    have hq : (cClm v w nc nt k A x c).1 (19 + nc) = (lp (bNext w nt) A 1 (fil (v.1 (19 + nc)) (nI 0) 0 4, v.1 34, nI 0)).1 := by
      unfold cClm
      rw [vRow_ne _ _ (by omega), cVec_3]
    rw [hr (1 + 11) (by omega) (by omega), hr (1 + 12) (by omega) (by omega), hr (1 + 13) (by omega) (by omega), hr (1 + 14) (by omega) (by omega), hr (1 + 15) (by omega) (by omega), hr (1 + 16) (by omega) (by omega)]
    unfold cAdd
    simp (disch := omega) only [Nat.reduceAdd, vRow_eq, vRow_ne]
    by_cases e2 : i = nc
    · subst e2
      rw [mn0, mn1, mn2, mn3, mn4, mn5]
      simp (disch := omega) only [upd_is]
      refine ⟨s4, trivial, trivial, trivial, trivial, s7', fun o ho => ?_⟩
      rw [hq, mb o ho]
      exact q1 o ho
    · have h1 := bc i (by omega)
      rw [mc (72 + 12 * i) (by omega) (by omega), mc (72 + 12 * i + 1) (by omega) (by omega), mc (72 + 12 * i + 2) (by omega) (by omega), mc (72 + 12 * i + 3) (by omega) (by omega), mc (72 + 12 * i + 4) (by omega) (by omega), mc (72 + 12 * i + 5) (by omega) (by omega)]
      simp (disch := omega) only [upd_ne]
      refine ⟨h1.1, h1.2.1, h1.2.2.1, h1.2.2.2.1, h1.2.2.2.2.1, h1.2.2.2.2.2.1, fun o ho => ?_⟩
      rw [cClm_ne _ _ _ _ (by omega), mc _ (by omega) (by omega)]
      exact h1.2.2.2.2.2.2 o ho
  · intro o ho
    have h1 := bt o ho
    have h34 : (cClm v w nc nt k A x c).1 (1 + 33) = (lp (bNext w nt) A 1 (fil (v.1 (19 + nc)) (nI 0) 0 4, v.1 34, nI 0)).2.1 := by
      unfold cClm
      rw [vRow_ne _ _ (by omega), cVec_2 _ _ (by omega)]
    rw [cClm_ne (i := 1 + 31) _ _ _ _ (by omega), cClm_ne (i := 1 + 32) _ _ _ _ (by omega), h34, mt0 o ho, mt o 1 ho (by omega), mt2 o ho]
    exact ⟨h1.1, h1.2.1, q2 o ho⟩
  · exact BRe_congr (fun o h1 _ => cClm_ne _ _ _ _ (by omega)) (fun i hi _ => mlo i (by omega) (by omega) (by omega) (by omega)) be
  · exact BRo_congr n8 (fun o h1 _ => cClm_ne _ _ _ _ (by omega)) (fun i hi _ => mlo i (by omega) (by omega) (by omega) (by omega)) bo
  · rw [cClm_ne (i := 1) _ _ _ _ (by omega)]
    exact bk.1
  · intro o ho
    have h1 := bk.2 o ho
    rw [cClm_ne (i := 1 + 34) _ _ _ _ (by omega), mt2 o ho]
    refine ⟨h1.1, ?_⟩
    show (bb.2.1 o).toInt + (sI (fun i => prt w' i o) nc + prt w' nc o) ≤ _
    rw [sI_congr (g := fun i => prt w i o) fun i hi => by unfold prt; rw [mc _ (by omega) (by omega)]]
    have h2 : prt w' nc o = (bb.1 o).toInt := by unfold prt; rw [mb o (by omega)]
    have h3 := (o1 o ho).2.2
    rw [h2]
    omega
  · intro i hi
    have h14 : (cClm v w nc nt k A x c).1 (1 + 13) = upd (v.1 14) nc c := by
      unfold cClm
      rw [vRow_ne _ _ (by omega), cVec_ne _ _ (by omega) (by omega)]
      unfold cAdd
      simp (disch := omega) only [Nat.reduceAdd, vRow_eq, vRow_ne]
    rw [h14]
    by_cases e2 : i = nc
    · subst e2
      rw [upd_eq]
      exact hnar
    · rw [upd_ne e2]
      exact bx i hi
theorem Y_makeClaim (x c d : Int32) (v : gV) {w : Nat → Int32} {B np nc nt no : Nat} (h : BR B v 1 w np nc nt no) (hy : ¬ yClm w np x c d = nI 0) : p_X1_makeClaim 1 x c d v ∧ f_X1_makeClaim 1 x c d v = (Sum.inr (eClm (yClm w np x c d)), v) ∧ (yClm w np x c d = nI 1 ∨ yClm w np x c d = nI 2 ∨ yClm w np x c d = nI 3 ∨ yClm w np x c d = nI 4) := by
  obtain ⟨hw, hs, wp, wc, wt, we, wo, bs, bp, bc, bt, be, bo, bk, bx⟩ := h
  obtain ⟨n1, n2, n3, n4, n5, n6, n7, n8⟩ := id hw
  obtain ⟨s1, s2, s3, s4, s5, s6, s7, s8⟩ := id bs
  have z1 : eClm (nI 1) = "java/util/NoSuchElementException" := rfl
  have z2 : eClm (nI 2) = "java/lang/IllegalArgumentException" := rfl
  have z3 : eClm (nI 3) = "java/lang/IllegalStateException" := rfl
  have z4 : eClm (nI 4) = "java/lang/UnsupportedOperationException" := rfl
  obtain ⟨pp, pf⟩ := F_placeOf_P n5 bs bp x
  have hcp := P_X11_isCause c v
  have hcf := F_X11_isCause c v
  unfold yClm at hy ⊢
  cases e : pol w np x with
  | none =>
    rw [e] at pf
    have pf' : f_X6_placeOf_P 1 x v = Sum.inr "java/util/NoSuchElementException" := pf
    refine ⟨?_, ?_, Or.inl rfl⟩
    · simp only [p_X1_makeClaim_63, p_X1_makeClaim_168, p_X1_makeClaim_153, p_X1_makeClaim_125, p_X1_makeClaim_34, p_X1_makeClaim_8, p_X1_makeClaim_0, p_X1_makeClaim, pp, pf', reduceIte, if_true, if_false, true_and, and_true, false_and, and_false, and_self, not_true_eq_false, not_false_eq_true, true_implies, false_implies, implies_true, forall_const, Bool.false_eq_true, el_l, el_r, Sum.inl.injEq, reduceCtorEq, forall_eq, forall_eq']
    · simp only [f_X1_makeClaim_63, f_X1_makeClaim_168, f_X1_makeClaim_153, f_X1_makeClaim_125, f_X1_makeClaim_34, f_X1_makeClaim_8, f_X1_makeClaim_0, f_X1_makeClaim, pf', reduceIte, if_true, if_false, true_and, and_true, false_and, and_false, and_self, not_true_eq_false, not_false_eq_true, true_implies, false_implies, implies_true, forall_const, Bool.false_eq_true, el_l, el_r, Sum.inl.injEq, reduceCtorEq, forall_eq, forall_eq']
      rfl
  | some k =>
    have hk := pol_lt e
    rw [e] at pf hy
    have pf' : f_X6_placeOf_P 1 x v = Sum.inl (nI k) := pf
    have hy : ¬ (if isC c = true then (if inb d (nI 1) (nI 99) = true then (if act w k = true then (if w 1 = nI 12 then nI 3 else if nI 0 < amo w k c d then nI 0 else nI 4) else nI 3) else nI 2) else nI 2) = nI 0 := hy
    show p_X1_makeClaim 1 x c d v ∧ f_X1_makeClaim 1 x c d v = (Sum.inr (eClm (if isC c = true then (if inb d (nI 1) (nI 99) = true then (if act w k = true then (if w 1 = nI 12 then nI 3 else if nI 0 < amo w k c d then nI 0 else nI 4) else nI 3) else nI 2) else nI 2)), v) ∧ _
    have s7' : v.1 1 5 = w 6 := s7
    have s3' : v.1 11 1 = nI nc := s3
    have hfa := F_act n5 bp hk
    have hpa := P_X5_isActiveAt v (w 6) (k := k) (by omega)
    cases hc : isC c with
    | false =>
      rw [hc] at hcf
      have hcf' : f_X11_isCause c v = nI 0 := hcf
      refine ⟨?_, ?_, Or.inr (Or.inl ?_)⟩
      · simp only [p_X1_makeClaim_63, p_X1_makeClaim_168, p_X1_makeClaim_153, p_X1_makeClaim_125, p_X1_makeClaim_34, p_X1_makeClaim_8, p_X1_makeClaim_0, p_X1_makeClaim, pp, pf', hcp, hcf', li_0, li_1, li_2, li_3, li_4, li_5, li_6, li_7, li_8, li_9, li_10, li_11, li_12, li_29, li_30, li_32, li_33, li_35, li_42, li_43, li_45, li_47, li_48, li_50, li_57, li_58, li_59, li_60, li_61, li_63, li_64, li_67, li_68, li_72, li_78, li_79, li_80, li_97, li_99, li_100, li_101, li_102, li_103, li_105, li_108, li_109, li_110, li_111, li_112, li_114, li_115, li_116, li_117, li_118, li_119, li_120, li_121, li_126, li_216, li_232, li_240, li_264, li_300, li_1000, li_1000000, li_2147483647, reduceIte, if_true, if_false, true_and, and_true, false_and, and_false, and_self, not_true_eq_false, not_false_eq_true, true_implies, false_implies, implies_true, forall_const, Bool.false_eq_true, el_l, el_r, Sum.inl.injEq, reduceCtorEq, forall_eq, forall_eq']
      · simp only [f_X1_makeClaim_63, f_X1_makeClaim_168, f_X1_makeClaim_153, f_X1_makeClaim_125, f_X1_makeClaim_34, f_X1_makeClaim_8, f_X1_makeClaim_0, f_X1_makeClaim, pf', hcf', li_0, li_1, li_2, li_3, li_4, li_5, li_6, li_7, li_8, li_9, li_10, li_11, li_12, li_29, li_30, li_32, li_33, li_35, li_42, li_43, li_45, li_47, li_48, li_50, li_57, li_58, li_59, li_60, li_61, li_63, li_64, li_67, li_68, li_72, li_78, li_79, li_80, li_97, li_99, li_100, li_101, li_102, li_103, li_105, li_108, li_109, li_110, li_111, li_112, li_114, li_115, li_116, li_117, li_118, li_119, li_120, li_121, li_126, li_216, li_232, li_240, li_264, li_300, li_1000, li_1000000, li_2147483647, reduceIte, if_true, if_false, true_and, and_true, false_and, and_false, and_self, not_true_eq_false, not_false_eq_true, true_implies, false_implies, implies_true, forall_const, Bool.false_eq_true, el_l, el_r, Sum.inl.injEq, reduceCtorEq, forall_eq, forall_eq', z2]
      · simp only [Option.elim, hc, Bool.false_eq_true, if_false]
    | true =>
      rw [hc, if_pos rfl] at hcf
      cases hd : inb d (nI 1) (nI 99) with
      | false =>
        refine ⟨?_, ?_, Or.inr (Or.inl ?_)⟩
        · simp only [p_X1_makeClaim_63, p_X1_makeClaim_168, p_X1_makeClaim_153, p_X1_makeClaim_125, p_X1_makeClaim_34, p_X1_makeClaim_8, p_X1_makeClaim_0, p_X1_makeClaim, pp, pf', hcp, hcf, n10, F_X11_checkedNumber, P_X11_checkedNumber, hd, li_0, li_1, li_2, li_3, li_4, li_5, li_6, li_7, li_8, li_9, li_10, li_11, li_12, li_29, li_30, li_32, li_33, li_35, li_42, li_43, li_45, li_47, li_48, li_50, li_57, li_58, li_59, li_60, li_61, li_63, li_64, li_67, li_68, li_72, li_78, li_79, li_80, li_97, li_99, li_100, li_101, li_102, li_103, li_105, li_108, li_109, li_110, li_111, li_112, li_114, li_115, li_116, li_117, li_118, li_119, li_120, li_121, li_126, li_216, li_232, li_240, li_264, li_300, li_1000, li_1000000, li_2147483647, reduceIte, if_true, if_false, true_and, and_true, false_and, and_false, and_self, not_true_eq_false, not_false_eq_true, true_implies, false_implies, implies_true, forall_const, Bool.false_eq_true, el_l, el_r, Sum.inl.injEq, reduceCtorEq, forall_eq, forall_eq']
        · simp only [f_X1_makeClaim_63, f_X1_makeClaim_168, f_X1_makeClaim_153, f_X1_makeClaim_125, f_X1_makeClaim_34, f_X1_makeClaim_8, f_X1_makeClaim_0, f_X1_makeClaim, pf', hcf, n10, F_X11_checkedNumber, hd, li_0, li_1, li_2, li_3, li_4, li_5, li_6, li_7, li_8, li_9, li_10, li_11, li_12, li_29, li_30, li_32, li_33, li_35, li_42, li_43, li_45, li_47, li_48, li_50, li_57, li_58, li_59, li_60, li_61, li_63, li_64, li_67, li_68, li_72, li_78, li_79, li_80, li_97, li_99, li_100, li_101, li_102, li_103, li_105, li_108, li_109, li_110, li_111, li_112, li_114, li_115, li_116, li_117, li_118, li_119, li_120, li_121, li_126, li_216, li_232, li_240, li_264, li_300, li_1000, li_1000000, li_2147483647, reduceIte, if_true, if_false, true_and, and_true, false_and, and_false, and_self, not_true_eq_false, not_false_eq_true, true_implies, false_implies, implies_true, forall_const, Bool.false_eq_true, el_l, el_r, Sum.inl.injEq, reduceCtorEq, forall_eq, forall_eq', z2]
        · simp only [Option.elim, hc, hd, Bool.false_eq_true, if_false, if_true]
      | true =>
        cases ha : act w k with
        | false =>
          rw [ha] at hfa
          have hfa' : f_X5_isActiveAt 1 (nI k) (w 6) v = nI 0 := hfa
          refine ⟨?_, ?_, Or.inr (Or.inr (Or.inl ?_))⟩
          · simp only [p_X1_makeClaim_63, p_X1_makeClaim_168, p_X1_makeClaim_153, p_X1_makeClaim_125, p_X1_makeClaim_34, p_X1_makeClaim_8, p_X1_makeClaim_0, p_X1_makeClaim, pp, pf', hcp, hcf, n10, F_X11_checkedNumber, P_X11_checkedNumber, hd, s7', hpa, hfa', li_0, li_1, li_2, li_3, li_4, li_5, li_6, li_7, li_8, li_9, li_10, li_11, li_12, li_29, li_30, li_32, li_33, li_35, li_42, li_43, li_45, li_47, li_48, li_50, li_57, li_58, li_59, li_60, li_61, li_63, li_64, li_67, li_68, li_72, li_78, li_79, li_80, li_97, li_99, li_100, li_101, li_102, li_103, li_105, li_108, li_109, li_110, li_111, li_112, li_114, li_115, li_116, li_117, li_118, li_119, li_120, li_121, li_126, li_216, li_232, li_240, li_264, li_300, li_1000, li_1000000, li_2147483647, reduceIte, if_true, if_false, true_and, and_true, false_and, and_false, and_self, not_true_eq_false, not_false_eq_true, true_implies, false_implies, implies_true, forall_const, Bool.false_eq_true, el_l, el_r, Sum.inl.injEq, reduceCtorEq, forall_eq, forall_eq']
          · simp only [f_X1_makeClaim_63, f_X1_makeClaim_168, f_X1_makeClaim_153, f_X1_makeClaim_125, f_X1_makeClaim_34, f_X1_makeClaim_8, f_X1_makeClaim_0, f_X1_makeClaim, pf', hcf, n10, F_X11_checkedNumber, hd, s7', hfa', li_0, li_1, li_2, li_3, li_4, li_5, li_6, li_7, li_8, li_9, li_10, li_11, li_12, li_29, li_30, li_32, li_33, li_35, li_42, li_43, li_45, li_47, li_48, li_50, li_57, li_58, li_59, li_60, li_61, li_63, li_64, li_67, li_68, li_72, li_78, li_79, li_80, li_97, li_99, li_100, li_101, li_102, li_103, li_105, li_108, li_109, li_110, li_111, li_112, li_114, li_115, li_116, li_117, li_118, li_119, li_120, li_121, li_126, li_216, li_232, li_240, li_264, li_300, li_1000, li_1000000, li_2147483647, reduceIte, if_true, if_false, true_and, and_true, false_and, and_false, and_self, not_true_eq_false, not_false_eq_true, true_implies, false_implies, implies_true, forall_const, Bool.false_eq_true, el_l, el_r, Sum.inl.injEq, reduceCtorEq, forall_eq, forall_eq', z3]
          · simp only [Option.elim, hc, hd, ha, Bool.false_eq_true, if_false, if_true]
        | true =>
          rw [ha, if_pos rfl] at hfa
          by_cases h12 : w 1 = nI 12
          · have hn12 : nc = 12 := by
              rw [n2, eq_n (by omega) (by omega)] at h12
              exact h12
            have hlt : ¬ nI nc < nI 12 := nI_nlt (by omega) (by omega)
            refine ⟨?_, ?_, Or.inr (Or.inr (Or.inl ?_))⟩
            · simp only [p_X1_makeClaim_63, p_X1_makeClaim_168, p_X1_makeClaim_153, p_X1_makeClaim_125, p_X1_makeClaim_34, p_X1_makeClaim_8, p_X1_makeClaim_0, p_X1_makeClaim, pp, pf', hcp, hcf, n10, F_X11_checkedNumber, P_X11_checkedNumber, hd, s7', hpa, hfa, Nat.reduceAdd, s3', hlt, li_0, li_1, li_2, li_3, li_4, li_5, li_6, li_7, li_8, li_9, li_10, li_11, li_12, li_29, li_30, li_32, li_33, li_35, li_42, li_43, li_45, li_47, li_48, li_50, li_57, li_58, li_59, li_60, li_61, li_63, li_64, li_67, li_68, li_72, li_78, li_79, li_80, li_97, li_99, li_100, li_101, li_102, li_103, li_105, li_108, li_109, li_110, li_111, li_112, li_114, li_115, li_116, li_117, li_118, li_119, li_120, li_121, li_126, li_216, li_232, li_240, li_264, li_300, li_1000, li_1000000, li_2147483647, reduceIte, if_true, if_false, true_and, and_true, false_and, and_false, and_self, not_true_eq_false, not_false_eq_true, true_implies, false_implies, implies_true, forall_const, Bool.false_eq_true, el_l, el_r, Sum.inl.injEq, reduceCtorEq, forall_eq, forall_eq']
            · simp only [f_X1_makeClaim_63, f_X1_makeClaim_168, f_X1_makeClaim_153, f_X1_makeClaim_125, f_X1_makeClaim_34, f_X1_makeClaim_8, f_X1_makeClaim_0, f_X1_makeClaim, pf', hcf, n10, F_X11_checkedNumber, hd, s7', hfa, Nat.reduceAdd, s3', hlt, h12, li_0, li_1, li_2, li_3, li_4, li_5, li_6, li_7, li_8, li_9, li_10, li_11, li_12, li_29, li_30, li_32, li_33, li_35, li_42, li_43, li_45, li_47, li_48, li_50, li_57, li_58, li_59, li_60, li_61, li_63, li_64, li_67, li_68, li_72, li_78, li_79, li_80, li_97, li_99, li_100, li_101, li_102, li_103, li_105, li_108, li_109, li_110, li_111, li_112, li_114, li_115, li_116, li_117, li_118, li_119, li_120, li_121, li_126, li_216, li_232, li_240, li_264, li_300, li_1000, li_1000000, li_2147483647, reduceIte, if_true, if_false, true_and, and_true, false_and, and_false, and_self, not_true_eq_false, not_false_eq_true, true_implies, false_implies, implies_true, forall_const, Bool.false_eq_true, el_l, el_r, Sum.inl.injEq, reduceCtorEq, forall_eq, forall_eq', z3]
            · simp only [Option.elim, hc, hd, ha, h12, Bool.false_eq_true, if_false, if_true]
          · have hn12 : ¬ nc = 12 := by
              rw [n2, eq_n (by omega) (by omega)] at h12
              exact h12
            have hlt : nI nc < nI 12 := nI_lt (by omega) (by omega)
            rw [if_pos hc, if_pos hd, if_pos ha, if_neg h12] at hy
            have hpos : ¬ nI 0 < amo w k c d := fun h => hy (if_pos h)
            have b2 : v.1 4 k = w (8 + 8 * k + 1) := (bp k hk).2.1
            have b7 : v.1 9 k = w (8 + 8 * k + 6) := (bp k hk).2.2.2.2.2.2
            have hl : f_X5_leftAt 1 (nI k) v = w (8 + 8 * k + 1) - w (8 + 8 * k + 6) := by
              simp (disch := omega) only [f_X5_leftAt_0, f_X5_leftAt, Nat.reduceAdd, cl_n, b2, b7]
            have hlp : p_X5_leftAt 1 (nI k) v := by
              simp (disch := omega) only [p_X5_leftAt_0, p_X5_leftAt, vi_n, and_self]
            have hdd := F_X1_deductible d v hc
            have hdp := P_X1_deductible c d v
            have ham : (if w (8 + 8 * k + 1) - w (8 + 8 * k + 6) < d - ded c d then w (8 + 8 * k + 1) - w (8 + 8 * k + 6) else d - ded c d) = amo w k c d := amo_cl _ _
            have h1A : ¬ nI 1 ≤ amo w k c d := by
              rw [i_lt, tI (by omega)] at hpos
              rw [i_le, tI (by omega)]
              omega
            refine ⟨?_, ?_, Or.inr (Or.inr (Or.inr ?_))⟩
            · simp only [p_X1_makeClaim_63, p_X1_makeClaim_168, p_X1_makeClaim_153, p_X1_makeClaim_125, p_X1_makeClaim_34, p_X1_makeClaim_8, p_X1_makeClaim_0, p_X1_makeClaim, pp, pf', hcp, hcf, n10, F_X11_checkedNumber, P_X11_checkedNumber, hd, s7', hpa, hfa, Nat.reduceAdd, s3', hlt, hdp, hdd, hl, hlp, ham, h1A, li_0, li_1, li_2, li_3, li_4, li_5, li_6, li_7, li_8, li_9, li_10, li_11, li_12, li_29, li_30, li_32, li_33, li_35, li_42, li_43, li_45, li_47, li_48, li_50, li_57, li_58, li_59, li_60, li_61, li_63, li_64, li_67, li_68, li_72, li_78, li_79, li_80, li_97, li_99, li_100, li_101, li_102, li_103, li_105, li_108, li_109, li_110, li_111, li_112, li_114, li_115, li_116, li_117, li_118, li_119, li_120, li_121, li_126, li_216, li_232, li_240, li_264, li_300, li_1000, li_1000000, li_2147483647, reduceIte, if_true, if_false, true_and, and_true, false_and, and_false, and_self, not_true_eq_false, not_false_eq_true, true_implies, false_implies, implies_true, forall_const, Bool.false_eq_true, el_l, el_r, Sum.inl.injEq, reduceCtorEq, forall_eq, forall_eq']
            · simp only [f_X1_makeClaim_63, f_X1_makeClaim_168, f_X1_makeClaim_153, f_X1_makeClaim_125, f_X1_makeClaim_34, f_X1_makeClaim_8, f_X1_makeClaim_0, f_X1_makeClaim, pf', hcf, n10, F_X11_checkedNumber, hd, s7', hfa, Nat.reduceAdd, s3', hlt, h12, hdd, hl, ham, h1A, hpos, li_0, li_1, li_2, li_3, li_4, li_5, li_6, li_7, li_8, li_9, li_10, li_11, li_12, li_29, li_30, li_32, li_33, li_35, li_42, li_43, li_45, li_47, li_48, li_50, li_57, li_58, li_59, li_60, li_61, li_63, li_64, li_67, li_68, li_72, li_78, li_79, li_80, li_97, li_99, li_100, li_101, li_102, li_103, li_105, li_108, li_109, li_110, li_111, li_112, li_114, li_115, li_116, li_117, li_118, li_119, li_120, li_121, li_126, li_216, li_232, li_240, li_264, li_300, li_1000, li_1000000, li_2147483647, reduceIte, if_true, if_false, true_and, and_true, false_and, and_false, and_self, not_true_eq_false, not_false_eq_true, true_implies, false_implies, implies_true, forall_const, Bool.false_eq_true, el_l, el_r, Sum.inl.injEq, reduceCtorEq, forall_eq, forall_eq', z4]
            · simp only [Option.elim, hc, hd, ha, h12, hpos, Bool.false_eq_true, if_false, if_true]
