/-! the class' claims: paid, closed, withdrawn -/
theorem F_placeOf_C {v : gV} {w : Nat → Int32} {np nc nt no : Nat} (hn : nc ≤ 12) (bs : BRs v 1 w np nc nt no) (bc : BRc v 1 w nc) (x : Int32) : p_X6_placeOf_C 1 x v ∧ f_X6_placeOf_C 1 x v = (clm w nc x).elim (Sum.inr "java/util/NoSuchElementException") (fun k => Sum.inl (nI k)) := by
  have s1 : v.1 11 1 = nI nc := bs.2.2.1
  have hf : f_X11_find 12 12 (nI nc) x v = oN (clm w nc x) := by
    rw [F_X11_find 12 12 x v hn (by omega)]
    unfold clm
    rw [fid_congr fun i hi => (bc i hi).1]
  have hp := P_X11_find 12 12 x v hn (by omega)
  constructor
  · simp (disch := omega) only [p_X6_placeOf_C_0, p_X6_placeOf_C, Nat.reduceAdd, s1, hp, implies_true, and_self]
  · simp (disch := omega) only [f_X6_placeOf_C_0, f_X6_placeOf_C, Nat.reduceAdd, s1, hf]
    cases e : clm w nc x with
    | none => exact if_neg oN_none
    | some k =>
      have := clm_lt e
      exact if_pos (oN_some (by omega))
theorem F_rowSum {v : gV} {w : Nat → Int32} {nc k : Nat} (bc : BRc v 1 w nc) (hk : k < nc) (hn : nc ≤ 12) : f_X11_sumOfRow (19 + k) 4 (nI 4) v = bor w k := by
  rw [F_X11_sumOfRow (19 + k) 4 v (by omega) (by omega)]
  exact sm_congr fun o ho => (bc k hk).2.2.2.2.2.2 o ho
theorem K_recoveredAt {v u : gV} {w : Nat → Int32} {np nc nt k : Nat} (hn : nc ≤ 12) (bc : BRc v 1 w nc) (wc : WFc w np nc nt) (hk : k < nc) (x : Int32) (h15 : u.1 15 = v.1 15) (h16 : u.1 16 k = x) (hr : u.1 (19 + k) = v.1 (19 + k)) : p_X2_recoveredAt 1 (nI k) u ∧ f_X2_recoveredAt 1 (nI k) u = bor w k * x / w (72 + 12 * k + 3) := by
  obtain ⟨a1, a2, a3, a4, a5, a6, a7⟩ := wc.1 k hk
  have b4 : u.1 15 k = w (72 + 12 * k + 3) := by rw [h15]; exact (bc k hk).2.2.2.1
  have hs : f_X11_sumOfRow (19 + k) 4 (nI 4) u = bor w k := by
    rw [F_X11_sumOfRow (19 + k) 4 u (by omega) (by omega), hr]
    exact sm_congr fun o ho => (bc k hk).2.2.2.2.2.2 o ho
  have hp := P_X11_sumOfRow (19 + k) 4 u (n := 4) (by omega) (by omega)
  have h1 : nI 1 ≤ w (72 + 12 * k + 3) := by rw [i_le, tI (by omega)]; omega
  have h0 : ¬ w (72 + 12 * k + 3) = nI 0 := by rw [i_eq, tI (by omega)]; omega
  constructor
  · simp (disch := omega) only [p_X2_recoveredAt_0, p_X2_recoveredAt, Nat.reduceAdd, li_0, li_1, li_2, li_3, li_4, li_5, li_6, li_7, li_8, li_9, li_10, li_11, li_12, li_29, li_30, li_32, li_33, li_35, li_42, li_43, li_45, li_47, li_48, li_50, li_57, li_58, li_59, li_60, li_61, li_63, li_64, li_67, li_68, li_72, li_78, li_79, li_80, li_97, li_99, li_100, li_101, li_102, li_103, li_105, li_108, li_109, li_110, li_111, li_112, li_114, li_115, li_116, li_117, li_118, li_119, li_120, li_121, li_126, li_216, li_232, li_240, li_264, li_300, li_1000, li_1000000, li_2147483647, nI_add, nI_mul, cl_n, vi_n, sub_n, b4, hp, h1, h0, reduceIte, if_true, if_false, true_and, and_true, false_and, and_false, and_self, not_true_eq_false, not_false_eq_true, true_implies, false_implies, implies_true, forall_const, Bool.false_eq_true, el_l, el_r, Sum.inl.injEq, reduceCtorEq, forall_eq, forall_eq']
  · simp (disch := omega) only [f_X2_recoveredAt_0, f_X2_recoveredAt, Nat.reduceAdd, li_0, li_1, li_2, li_3, li_4, li_5, li_6, li_7, li_8, li_9, li_10, li_11, li_12, li_29, li_30, li_32, li_33, li_35, li_42, li_43, li_45, li_47, li_48, li_50, li_57, li_58, li_59, li_60, li_61, li_63, li_64, li_67, li_68, li_72, li_78, li_79, li_80, li_97, li_99, li_100, li_101, li_102, li_103, li_105, li_108, li_109, li_110, li_111, li_112, li_114, li_115, li_116, li_117, li_118, li_119, li_120, li_121, li_126, li_216, li_232, li_240, li_264, li_300, li_1000, li_1000000, li_2147483647, nI_add, nI_mul, cl_n, vi_n, sub_n, b4, h16, hs, h1, reduceIte, if_true, if_false, true_and, and_true, false_and, and_false, and_self, not_true_eq_false, not_false_eq_true, true_implies, false_implies, implies_true, forall_const, Bool.false_eq_true, el_l, el_r, Sum.inl.injEq, reduceCtorEq, forall_eq, forall_eq']
theorem WFc_ne0 {w : Nat → Int32} {np nc nt k : Nat} (wc : WFc w np nc nt) (hk : k < nc) : ¬ w (72 + 12 * k + 3) = nI 0 := by
  obtain ⟨a1, a2, a3, a4, a5, a6, a7⟩ := wc.1 k hk
  rw [i_eq, tI (by omega)]
  omega
/-- the period of a day -/
theorem per_b {d : Int32} (h : 0 ≤ d.toInt) : ∃ s, d / nI 10 = nI s ∧ (s : Int) = d.toInt / 10 ∧ s < 300000000 := by
  have hb := ti_hi d
  have e : (d / nI 10).toInt = d.toInt / 10 := by
    rw [ti_div (ne_neg1 (by omega)), show (nI 10).toInt = 10 from tI (by omega), Int.tdiv_eq_ediv_of_nonneg h]
  refine ⟨(d.toInt / 10).toNat, ?_, by omega, by omega⟩
  rw [i_eq, e, tI (by omega)]
  omega
def cPay (v : gV) (k s t : Nat) (g c : Int32) : gV := vRow (if t < 6 then vRow (vRow v 16 (upd (v.1 16) k (v.1 16 k + c))) (40 + s) (upd (v.1 (40 + s)) (t - s) (v.1 (40 + s) (t - s) + c)) else vRow v 16 (upd (v.1 16) k (v.1 16 k + c))) 1 (upd (upd (upd (v.1 1) 10 (v.1 1 10 + c)) 11 (v.1 1 11 + g)) 6 (v.1 1 6 + (g - c)))
theorem K_tri_add (v : gV) (a b c : Int32) {s t : Nat} (hs : a / nI 10 = nI s) (ht : b / nI 10 = nI t) (hst : s ≤ t) (ht2 : t < 300000000) : p_X9_add 1 a b c v ∧ f_X9_add 1 a b c v = if t < 6 then vRow v (40 + s) (upd (v.1 (40 + s)) (t - s) (v.1 (40 + s) (t - s) + c)) else v := by
  have h1 : ¬ nI s < nI 0 := nI_nlt (by omega) (by omega)
  have h2 : ¬ nI (t - s) < nI 0 := nI_nlt (by omega) (by omega)
  have e : s + (t - s) = t := by omega
  have q1 : ¬ nI 10 = nI 0 := by decide +kernel
  by_cases h6 : t < 6
  · have h7 : ¬ nI 6 ≤ nI t := nI_ge h6 (by omega)
    rw [if_pos h6]
    constructor
    · simp (disch := omega) only [p_X9_add_49, p_X9_add_0, p_X9_add, li_0, li_1, li_2, li_3, li_4, li_5, li_6, li_7, li_8, li_9, li_10, li_11, li_12, li_29, li_30, li_32, li_33, li_35, li_42, li_43, li_45, li_47, li_48, li_50, li_57, li_58, li_59, li_60, li_61, li_63, li_64, li_67, li_68, li_72, li_78, li_79, li_80, li_97, li_99, li_100, li_101, li_102, li_103, li_105, li_108, li_109, li_110, li_111, li_112, li_114, li_115, li_116, li_117, li_118, li_119, li_120, li_121, li_126, li_216, li_232, li_240, li_264, li_300, li_1000, li_1000000, li_2147483647, nI_add, nI_mul, cl_n, vi_n, sub_n, hs, ht, h1, h2, e, h7, q1, reduceIte, if_true, if_false, true_and, and_true, false_and, and_false, and_self, not_true_eq_false, not_false_eq_true, true_implies, false_implies, implies_true, forall_const, Bool.false_eq_true, el_l, el_r, Sum.inl.injEq, reduceCtorEq, forall_eq, forall_eq']
    · simp (disch := omega) only [f_X9_add_49, f_X9_add_0, f_X9_add, li_0, li_1, li_2, li_3, li_4, li_5, li_6, li_7, li_8, li_9, li_10, li_11, li_12, li_29, li_30, li_32, li_33, li_35, li_42, li_43, li_45, li_47, li_48, li_50, li_57, li_58, li_59, li_60, li_61, li_63, li_64, li_67, li_68, li_72, li_78, li_79, li_80, li_97, li_99, li_100, li_101, li_102, li_103, li_105, li_108, li_109, li_110, li_111, li_112, li_114, li_115, li_116, li_117, li_118, li_119, li_120, li_121, li_126, li_216, li_232, li_240, li_264, li_300, li_1000, li_1000000, li_2147483647, nI_add, nI_mul, cl_n, vi_n, sub_n, hs, ht, h1, h2, e, h7, reduceIte, if_true, if_false, true_and, and_true, false_and, and_false, and_self, not_true_eq_false, not_false_eq_true, true_implies, false_implies, implies_true, forall_const, Bool.false_eq_true, el_l, el_r, Sum.inl.injEq, reduceCtorEq, forall_eq, forall_eq', Nat.reduceAdd, vM_rw]
  · have h7 : nI 6 ≤ nI t := nI_le (by omega) (by omega)
    rw [if_neg h6]
    constructor
    · simp (disch := omega) only [p_X9_add_49, p_X9_add_0, p_X9_add, li_0, li_1, li_2, li_3, li_4, li_5, li_6, li_7, li_8, li_9, li_10, li_11, li_12, li_29, li_30, li_32, li_33, li_35, li_42, li_43, li_45, li_47, li_48, li_50, li_57, li_58, li_59, li_60, li_61, li_63, li_64, li_67, li_68, li_72, li_78, li_79, li_80, li_97, li_99, li_100, li_101, li_102, li_103, li_105, li_108, li_109, li_110, li_111, li_112, li_114, li_115, li_116, li_117, li_118, li_119, li_120, li_121, li_126, li_216, li_232, li_240, li_264, li_300, li_1000, li_1000000, li_2147483647, nI_add, nI_mul, cl_n, vi_n, sub_n, hs, ht, h1, h2, e, h7, q1, reduceIte, if_true, if_false, true_and, and_true, false_and, and_false, and_self, not_true_eq_false, not_false_eq_true, true_implies, false_implies, implies_true, forall_const, Bool.false_eq_true, el_l, el_r, Sum.inl.injEq, reduceCtorEq, forall_eq, forall_eq']
    · simp (disch := omega) only [f_X9_add_49, f_X9_add_0, f_X9_add, li_0, li_1, li_2, li_3, li_4, li_5, li_6, li_7, li_8, li_9, li_10, li_11, li_12, li_29, li_30, li_32, li_33, li_35, li_42, li_43, li_45, li_47, li_48, li_50, li_57, li_58, li_59, li_60, li_61, li_63, li_64, li_67, li_68, li_72, li_78, li_79, li_80, li_97, li_99, li_100, li_101, li_102, li_103, li_105, li_108, li_109, li_110, li_111, li_112, li_114, li_115, li_116, li_117, li_118, li_119, li_120, li_121, li_126, li_216, li_232, li_240, li_264, li_300, li_1000, li_1000000, li_2147483647, nI_add, nI_mul, cl_n, vi_n, sub_n, hs, ht, h1, h2, e, h7, reduceIte, if_true, if_false, true_and, and_true, false_and, and_false, and_self, not_true_eq_false, not_false_eq_true, true_implies, false_implies, implies_true, forall_const, Bool.false_eq_true, el_l, el_r, Sum.inl.injEq, reduceCtorEq, forall_eq, forall_eq']
def ePay (y : Int32) : String := if y = nI 1 then "java/util/NoSuchElementException" else if y = nI 2 then "java/lang/IllegalArgumentException" else "java/lang/IllegalStateException"
theorem cPay_Fr (v : gV) {k s t : Nat} (g c : Int32) (hs : s < 6 ∨ ¬ t < 6) : Fr v (cPay v k s t g c) := by
  unfold cPay
  by_cases h : t < 6
  · rw [if_pos h]
    exact ((((Fr.refl v).row _ (by omega) (by omega)).row _ (by omega) (by omega)).row _ (by omega) (by omega))
  · rw [if_neg h]
    exact (((Fr.refl v).row _ (by omega) (by omega)).row _ (by omega) (by omega))
theorem cPay_ne (v : gV) {k s t : Nat} (g c : Int32) {i : Nat} (h : ¬ i = 1) (h2 : ¬ i = 16) (h3 : ¬ i = 40 + s ∨ ¬ t < 6) : (cPay v k s t g c).1 i = v.1 i := by
  unfold cPay
  rw [vRow_ne _ _ h]
  by_cases h6 : t < 6
  · rw [if_pos h6, vRow_ne _ _ (by omega), vRow_ne _ _ h2]
  · rw [if_neg h6, vRow_ne _ _ h2]
theorem cPay_16 (v : gV) {k s t : Nat} (g c : Int32) : (cPay v k s t g c).1 16 = upd (v.1 16) k (v.1 16 k + c) := by
  unfold cPay
  rw [vRow_ne _ _ (by omega)]
  by_cases h6 : t < 6
  · rw [if_pos h6, vRow_ne _ _ (by omega), vRow_eq]
  · rw [if_neg h6, vRow_eq]
theorem cPay_cell (v : gV) {k s t : Nat} (g c : Int32) (h6 : t < 6) : (cPay v k s t g c).1 (40 + s) = upd (v.1 (40 + s)) (t - s) (v.1 (40 + s) (t - s) + c) := by
  unfold cPay
  rw [vRow_ne _ _ (by omega), if_pos h6, vRow_eq]
theorem cPay_1 (v : gV) {k s t : Nat} (g c : Int32) : (cPay v k s t g c).1 1 = upd (upd (upd (v.1 1) 10 (v.1 1 10 + c)) 11 (v.1 1 11 + g)) 6 (v.1 1 6 + (g - c)) := by
  unfold cPay
  rw [vRow_eq]
section MPAY
variable {w : Nat → Int32} {k s t : Nat} {c : Int32}
theorem mPay_ne {i : Nat} (h7 : ¬ i = 7) (hp : ¬ i = 72 + 12 * k + 4) (hc : ¬ i = 264 + 6 * s + t - s ∨ ¬ t < 6) : mPay w k s t c i = w i := by
  unfold mPay
  by_cases h6 : t < 6
  · rw [if_pos h6, upd_ne (by omega), upd_ne h7, upd_ne hp]
  · rw [if_neg h6, upd_ne h7, upd_ne hp]
theorem mPay_p (hk : k < 12) (hst : s ≤ t) : mPay w k s t c (72 + 12 * k + 4) = w (72 + 12 * k + 4) + c := by
  unfold mPay
  by_cases h6 : t < 6
  · rw [if_pos h6, upd_ne (by omega), upd_ne (by omega), upd_eq]
  · rw [if_neg h6, upd_ne (by omega), upd_eq]
theorem mPay_7 (hst : s ≤ t) : mPay w k s t c 7 = w 7 + (rcv (upd w (72 + 12 * k + 4) (w (72 + 12 * k + 4) + c)) k - rcv w k - c) := by
  unfold mPay
  by_cases h6 : t < 6
  · rw [if_pos h6, upd_ne (by omega), upd_eq]
  · rw [if_neg h6, upd_eq]
theorem mPay_c (h6 : t < 6) : mPay w k s t c (264 + 6 * s + t - s) = w (264 + 6 * s + t - s) + c := by
  unfold mPay
  rw [if_pos h6, upd_eq]
end MPAY
theorem K_payPart (x c : Int32) (v : gV) {w : Nat → Int32} {B np nc nt no : Nat} (hB : B < 40000) (h : BR B v 1 w np nc nt no) : p_X1_payPart 1 x c v ∧ (¬ yPay w nc x c = nI 0 → f_X1_payPart 1 x c v = (Sum.inr (ePay (yPay w nc x c)), v) ∧ (yPay w nc x c = nI 1 ∨ yPay w nc x c = nI 2 ∨ yPay w nc x c = nI 3)) ∧ (yPay w nc x c = nI 0 → ∃ k s t v', clm w nc x = some k ∧ w (72 + 12 * k + 5) / nI 10 = nI s ∧ w 6 / nI 10 = nI t ∧ s ≤ t ∧ t < 2147483648 ∧ f_X1_payPart 1 x c v = (Sum.inl (rcv (upd w (72 + 12 * k + 4) (w (72 + 12 * k + 4) + c)) k - rcv w k), v') ∧ Fr v v' ∧ BR (B + 1) v' 1 (mPay w k s t c) np nc nt no) := by
  obtain ⟨hw, hs, wp, wc, wt, we, wo, bs, bp, bc, bt, be, bo, bk, bx⟩ := h
  obtain ⟨n1, n2, n3, n4, n5, n6, n7, n8⟩ := id hw
  obtain ⟨s1, s2, s3, s4, s5, s6, s7, s8⟩ := id bs
  have q1 : ¬ nI 1 = nI 0 := n10
  have q2 : ¬ nI 2 = nI 0 := by decide +kernel
  have q3 : ¬ nI 3 = nI 0 := by decide +kernel
  have z1 : ePay (nI 1) = "java/util/NoSuchElementException" := rfl
  have z2 : ePay (nI 2) = "java/lang/IllegalArgumentException" := rfl
  have z3 : ePay (nI 3) = "java/lang/IllegalStateException" := rfl
  obtain ⟨pp, pf⟩ := F_placeOf_C n6 bs bc x
  unfold yPay
  cases e : clm w nc x with
  | none =>
    rw [e] at pf
    have pf' : f_X6_placeOf_C 1 x v = Sum.inr "java/util/NoSuchElementException" := pf
    refine ⟨?_, fun _ => ⟨?_, Or.inl rfl⟩, fun h => absurd h q1⟩
    · simp only [p_X1_payPart_130, p_X1_payPart_117, p_X1_payPart_106, p_X1_payPart_96, p_X1_payPart_62, p_X1_payPart_16, p_X1_payPart_8, p_X1_payPart_0, p_X1_payPart, pp, pf', reduceIte, if_true, if_false, true_and, and_true, false_and, and_false, and_self, not_true_eq_false, not_false_eq_true, true_implies, false_implies, implies_true, forall_const, Bool.false_eq_true, el_l, el_r, Sum.inl.injEq, reduceCtorEq, forall_eq, forall_eq']
    · simp only [f_X1_payPart_130, f_X1_payPart_117, f_X1_payPart_106, f_X1_payPart_96, f_X1_payPart_62, f_X1_payPart_16, f_X1_payPart_8, f_X1_payPart_0, f_X1_payPart, pf', reduceIte, if_true, if_false, true_and, and_true, false_and, and_false, and_self, not_true_eq_false, not_false_eq_true, true_implies, false_implies, implies_true, forall_const, Bool.false_eq_true, el_l, el_r, Sum.inl.injEq, reduceCtorEq, forall_eq, forall_eq', Option.elim, z1]
  | some k =>
    have hk := clm_lt e
    rw [e] at pf
    have pf' : f_X6_placeOf_C 1 x v = Sum.inl (nI k) := pf
    obtain ⟨a1, a2, a3, a4, a5, a6, a7, a8, a9, a10, a11, a12, a13⟩ := wc.1 k hk
    have b4 : v.1 15 k = w (72 + 12 * k + 3) := (bc k hk).2.2.2.1
    have b5 : v.1 16 k = w (72 + 12 * k + 4) := (bc k hk).2.2.2.2.1
    have b6 : v.1 17 k = w (72 + 12 * k + 5) := (bc k hk).2.2.2.2.2.1
    have hu : f_X2_unpaidAt 1 (nI k) v = w (72 + 12 * k + 3) - w (72 + 12 * k + 4) := by
      simp (disch := omega) only [f_X2_unpaidAt_0, f_X2_unpaidAt, Nat.reduceAdd, cl_n, b4, b5]
    have hup : p_X2_unpaidAt 1 (nI k) v := by
      simp (disch := omega) only [p_X2_unpaidAt_0, p_X2_unpaidAt, vi_n, and_self]
    cases hc : inb c (nI 1) (nI 99) with
    | false =>
      refine ⟨?_, fun _ => ⟨?_, Or.inr (Or.inl ?_)⟩, fun h => ?_⟩
      · simp only [p_X1_payPart_130, p_X1_payPart_117, p_X1_payPart_106, p_X1_payPart_96, p_X1_payPart_62, p_X1_payPart_16, p_X1_payPart_8, p_X1_payPart_0, p_X1_payPart, pp, pf', P_X11_checkedNumber, F_X11_checkedNumber, hc, li_0, li_1, li_2, li_3, li_4, li_5, li_6, li_7, li_8, li_9, li_10, li_11, li_12, li_29, li_30, li_32, li_33, li_35, li_42, li_43, li_45, li_47, li_48, li_50, li_57, li_58, li_59, li_60, li_61, li_63, li_64, li_67, li_68, li_72, li_78, li_79, li_80, li_97, li_99, li_100, li_101, li_102, li_103, li_105, li_108, li_109, li_110, li_111, li_112, li_114, li_115, li_116, li_117, li_118, li_119, li_120, li_121, li_126, li_216, li_232, li_240, li_264, li_300, li_1000, li_1000000, li_2147483647, reduceIte, if_true, if_false, true_and, and_true, false_and, and_false, and_self, not_true_eq_false, not_false_eq_true, true_implies, false_implies, implies_true, forall_const, Bool.false_eq_true, el_l, el_r, Sum.inl.injEq, reduceCtorEq, forall_eq, forall_eq']
      · simp only [f_X1_payPart_130, f_X1_payPart_117, f_X1_payPart_106, f_X1_payPart_96, f_X1_payPart_62, f_X1_payPart_16, f_X1_payPart_8, f_X1_payPart_0, f_X1_payPart, pf', F_X11_checkedNumber, hc, li_0, li_1, li_2, li_3, li_4, li_5, li_6, li_7, li_8, li_9, li_10, li_11, li_12, li_29, li_30, li_32, li_33, li_35, li_42, li_43, li_45, li_47, li_48, li_50, li_57, li_58, li_59, li_60, li_61, li_63, li_64, li_67, li_68, li_72, li_78, li_79, li_80, li_97, li_99, li_100, li_101, li_102, li_103, li_105, li_108, li_109, li_110, li_111, li_112, li_114, li_115, li_116, li_117, li_118, li_119, li_120, li_121, li_126, li_216, li_232, li_240, li_264, li_300, li_1000, li_1000000, li_2147483647, reduceIte, if_true, if_false, true_and, and_true, false_and, and_false, and_self, not_true_eq_false, not_false_eq_true, true_implies, false_implies, implies_true, forall_const, Bool.false_eq_true, el_l, el_r, Sum.inl.injEq, reduceCtorEq, forall_eq, forall_eq', Option.elim, z2]
      · simp only [Option.elim, hc, Bool.false_eq_true, if_false]
      · simp only [Option.elim, hc, Bool.false_eq_true, if_false, q2] at h
    | true =>
      by_cases hle : c ≤ w (72 + 12 * k + 3) - w (72 + 12 * k + 4)
      · rw [inb_t, tI (by omega), tI (by omega)] at hc
        rw [i_le, ti_sub (by omega) (by omega)] at hle
        have hle' : c ≤ w (72 + 12 * k + 3) - w (72 + 12 * k + 4) := by
          rw [i_le, ti_sub (by omega) (by omega)]
          exact hle
        have hc' : inb c (nI 1) (nI 99) = true := by
          rw [inb_t, tI (by omega), tI (by omega)]
          exact hc
        obtain ⟨f1, f2, f3, f4, f5, f6⟩ := id hs
        obtain ⟨s, es, is, ls⟩ := per_b a9
        obtain ⟨t, et, it, lt⟩ := per_b f5
        have hst : s ≤ t := by omega
        have s7' : v.1 1 5 = w 6 := s7
        have epc : (w (72 + 12 * k + 4) + c).toInt = (w (72 + 12 * k + 4)).toInt + c.toInt := ti_add (by omega) (by omega)
        obtain ⟨rp0, rf0⟩ := K_recoveredAt (u := v) n6 bc wc hk (w (72 + 12 * k + 4)) rfl b5 rfl
        have hr1 : ∀ u : gV, u.1 15 = v.1 15 → u.1 16 k = w (72 + 12 * k + 4) + c → u.1 (19 + k) = v.1 (19 + k) → p_X2_recoveredAt 1 (nI k) u ∧ f_X2_recoveredAt 1 (nI k) u = bor w k * (w (72 + 12 * k + 4) + c) / w (72 + 12 * k + 3) := fun u h1 h2 h3 => K_recoveredAt n6 bc wc hk _ h1 h2 h3
        have rr : rcv (upd w (72 + 12 * k + 4) (w (72 + 12 * k + 4) + c)) k = bor w k * (w (72 + 12 * k + 4) + c) / w (72 + 12 * k + 3) := by
          unfold rcv
          rw [upd_eq, upd_ne (by omega)]
          congr 2
          exact sm_congr fun o ho => upd_ne (by omega)
        have r0 : rcv w k = bor w k * w (72 + 12 * k + 4) / w (72 + 12 * k + 3) := rfl
        rw [← r0] at rf0
        rw [← rr] at hr1
        generalize hg1 : rcv (upd w (72 + 12 * k + 4) (w (72 + 12 * k + 4) + c)) k = g1 at hr1
        generalize hg0 : rcv w k = g0 at rf0
        have hu1 := hr1 (vRow v 16 (upd (v.1 16) k (v.1 16 k + c))) (by rw [vRow_ne _ _ (by omega)]) (by rw [vRow_eq, upd_eq, b5]) (by rw [vRow_ne _ _ (by omega)])
        have hadd := K_tri_add (vRow v 16 (upd (v.1 16) k (v.1 16 k + c))) (w (72 + 12 * k + 5)) (w 6) c es et hst lt
        rw [vRow_ne (i := 40 + s) _ _ (by omega)] at hadd
        have hfin : f_X1_payPart 1 x c v = (Sum.inl (g1 - g0), cPay v k s t (g1 - g0) c) := by
          unfold cPay
          by_cases h6 : t < 6
          · rw [if_pos h6] at hadd ⊢
            simp (disch := omega) only [f_X1_payPart_130, f_X1_payPart_117, f_X1_payPart_106, f_X1_payPart_96, f_X1_payPart_62, f_X1_payPart_16, f_X1_payPart_8, f_X1_payPart_0, f_X1_payPart, pf', F_X11_checkedNumber, hc', li_0, li_1, li_2, li_3, li_4, li_5, li_6, li_7, li_8, li_9, li_10, li_11, li_12, li_29, li_30, li_32, li_33, li_35, li_42, li_43, li_45, li_47, li_48, li_50, li_57, li_58, li_59, li_60, li_61, li_63, li_64, li_67, li_68, li_72, li_78, li_79, li_80, li_97, li_99, li_100, li_101, li_102, li_103, li_105, li_108, li_109, li_110, li_111, li_112, li_114, li_115, li_116, li_117, li_118, li_119, li_120, li_121, li_126, li_216, li_232, li_240, li_264, li_300, li_1000, li_1000000, li_2147483647, reduceIte, if_true, if_false, true_and, and_true, false_and, and_false, and_self, not_true_eq_false, not_false_eq_true, true_implies, false_implies, implies_true, forall_const, Bool.false_eq_true, el_l, el_r, Sum.inl.injEq, reduceCtorEq, forall_eq, forall_eq', hu, hle', rf0, Nat.reduceAdd, cl_n, vM_rw, vRow_ne, hu1, b6, s7', hadd, vRow_row, vRow_eq, upd_ne]
          · rw [if_neg h6] at hadd ⊢
            simp (disch := omega) only [f_X1_payPart_130, f_X1_payPart_117, f_X1_payPart_106, f_X1_payPart_96, f_X1_payPart_62, f_X1_payPart_16, f_X1_payPart_8, f_X1_payPart_0, f_X1_payPart, pf', F_X11_checkedNumber, hc', li_0, li_1, li_2, li_3, li_4, li_5, li_6, li_7, li_8, li_9, li_10, li_11, li_12, li_29, li_30, li_32, li_33, li_35, li_42, li_43, li_45, li_47, li_48, li_50, li_57, li_58, li_59, li_60, li_61, li_63, li_64, li_67, li_68, li_72, li_78, li_79, li_80, li_97, li_99, li_100, li_101, li_102, li_103, li_105, li_108, li_109, li_110, li_111, li_112, li_114, li_115, li_116, li_117, li_118, li_119, li_120, li_121, li_126, li_216, li_232, li_240, li_264, li_300, li_1000, li_1000000, li_2147483647, reduceIte, if_true, if_false, true_and, and_true, false_and, and_false, and_self, not_true_eq_false, not_false_eq_true, true_implies, false_implies, implies_true, forall_const, Bool.false_eq_true, el_l, el_r, Sum.inl.injEq, reduceCtorEq, forall_eq, forall_eq', hu, hle', rf0, Nat.reduceAdd, cl_n, vM_rw, vRow_ne, hu1, b6, s7', hadd, vRow_row, vRow_eq, upd_ne]
        refine ⟨?_, fun h => absurd ?_ h, fun _ => ⟨k, s, t, cPay v k s t (g1 - g0) c, rfl, es, et, hst, by omega, by rw [hg1, hg0]; exact hfin, cPay_Fr v _ _ (by omega), ?_⟩⟩
        · simp (disch := omega) only [p_X1_payPart_130, p_X1_payPart_117, p_X1_payPart_106, p_X1_payPart_96, p_X1_payPart_62, p_X1_payPart_16, p_X1_payPart_8, p_X1_payPart_0, p_X1_payPart, pp, pf', F_X11_checkedNumber, P_X11_checkedNumber, hc', li_0, li_1, li_2, li_3, li_4, li_5, li_6, li_7, li_8, li_9, li_10, li_11, li_12, li_29, li_30, li_32, li_33, li_35, li_42, li_43, li_45, li_47, li_48, li_50, li_57, li_58, li_59, li_60, li_61, li_63, li_64, li_67, li_68, li_72, li_78, li_79, li_80, li_97, li_99, li_100, li_101, li_102, li_103, li_105, li_108, li_109, li_110, li_111, li_112, li_114, li_115, li_116, li_117, li_118, li_119, li_120, li_121, li_126, li_216, li_232, li_240, li_264, li_300, li_1000, li_1000000, li_2147483647, reduceIte, if_true, if_false, true_and, and_true, false_and, and_false, and_self, not_true_eq_false, not_false_eq_true, true_implies, false_implies, implies_true, forall_const, Bool.false_eq_true, el_l, el_r, Sum.inl.injEq, reduceCtorEq, forall_eq, forall_eq', hu, hup, hle', rp0, rf0, Nat.reduceAdd, cl_n, vi_n, vM_rw, vRow_ne, hu1, b6, s7', hadd]
        · simp only [Option.elim, hc', hle', if_true]
        have mne : ∀ i, ¬ i = 7 → ¬ i = 72 + 12 * k + 4 → i < 264 → mPay w k s t c i = w i := fun i h1 h2 h3 => mPay_ne h1 h2 (by omega)
        have mp := mPay_p (w := w) (s := s) (t := t) (c := c) (k := k) (by omega) hst
        have m7 := mPay_7 (w := w) (s := s) (t := t) (c := c) (k := k) hst
        refine ⟨⟨?_, ?_, ?_, ?_, n5, n6, n7, n8⟩, ?_, ?_, ⟨?_, ?_⟩, ?_, ?_, ?_, ?_, ?_, ?_, ?_, ?_, ?_, ⟨?_, ?_⟩, ?_⟩
        · rw [mne 0 (by omega) (by omega) (by omega)]; exact n1
        · rw [mne 1 (by omega) (by omega) (by omega)]; exact n2
        · rw [mne 2 (by omega) (by omega) (by omega)]; exact n3
        · rw [mne 3 (by omega) (by omega) (by omega)]; exact n4
        · unfold WFs
          rw [mne 4 (by omega) (by omega) (by omega), mne 5 (by omega) (by omega) (by omega), mne 6 (by omega) (by omega) (by omega)]
          omega
        · exact WFp_congr n5 (by omega) (by rw [mne 4 (by omega) (by omega) (by omega)]; exact Int.le_refl _) (fun i h1 h2 => mne i (by omega) (by omega) (by omega)) wp
        · intro i hi
          by_cases e2 : i = k
          · subst e2
            unfold WFc1
            have hprt : ∀ o, o < 4 → prt (mPay w i s t c) i o = prt w i o := fun o ho => by unfold prt; rw [mne _ (by omega) (by omega) (by omega)]
            rw [mne (72 + 12 * i) (by omega) (by omega) (by omega), mne 5 (by omega) (by omega) (by omega), mne 6 (by omega) (by omega) (by omega), mne (72 + 12 * i + 1) (by omega) (by omega) (by omega), mne (72 + 12 * i + 2) (by omega) (by omega) (by omega), mne (72 + 12 * i + 3) (by omega) (by omega) (by omega), mp, mne (72 + 12 * i + 5) (by omega) (by omega) (by omega), epc]
            obtain ⟨q, hq, a3⟩ := a3
            exact ⟨a1, a2, ⟨q, hq, by rw [mne _ (by omega) (by omega) (by omega)]; exact a3⟩, a4, a5, a6, by omega, by omega, a9, a10, fun o ho => by rw [hprt o ho]; exact a11 o ho, by rw [sI_congr hprt]; exact a12, fun o ho h2 => by rw [mne _ (by omega) (by omega) (by omega)]; exact a13 o ho h2⟩
          · have h1 := wc.1 i hi
            unfold WFc1 at h1 ⊢
            have hprt : ∀ o, o < 4 → prt (mPay w k s t c) i o = prt w i o := fun o ho => by unfold prt; rw [mne _ (by omega) (by omega) (by omega)]
            obtain ⟨c1, c2, ⟨q, hq, c3⟩, c4, c5, c6, c7, c8, c9, c10, c11, c12, c13⟩ := h1
            rw [mne (72 + 12 * i) (by omega) (by omega) (by omega), mne 5 (by omega) (by omega) (by omega), mne 6 (by omega) (by omega) (by omega), mne (72 + 12 * i + 1) (by omega) (by omega) (by omega), mne (72 + 12 * i + 2) (by omega) (by omega) (by omega), mne (72 + 12 * i + 3) (by omega) (by omega) (by omega), mne (72 + 12 * i + 4) (by omega) (by omega) (by omega), mne (72 + 12 * i + 5) (by omega) (by omega) (by omega)]
            exact ⟨c1, c2, ⟨q, hq, by rw [mne _ (by omega) (by omega) (by omega)]; exact c3⟩, c4, c5, c6, c7, c8, c9, c10, fun o ho => by rw [hprt o ho]; exact c11 o ho, by rw [sI_congr hprt]; exact c12, fun o ho h2 => by rw [mne _ (by omega) (by omega) (by omega)]; exact c13 o ho h2⟩
        · intro j i hj hi
          rw [mne _ (by omega) (by omega) (by omega), mne _ (by omega) (by omega) (by omega)]
          exact wc.2 j i hj hi
        · exact WFt_congr n7 (fun i h1 h2 => mne i (by omega) (by omega) (by omega)) wt
        · intro p d hp hd
          have h1 := we p d hp hd
          by_cases h6 : t < 6 ∧ p = s ∧ d = t - s
          · obtain ⟨h6, rfl, rfl⟩ := h6
            have hidx : 264 + 6 * p + (t - p) = 264 + 6 * p + t - p := by omega
            have hb2 : (w (264 + 6 * p + t - p) + c).toInt = (w (264 + 6 * p + t - p)).toInt + c.toInt := by
              rw [hidx] at h1
              exact ti_add (by omega) (by omega)
            rw [hidx] at h1 ⊢
            rw [mPay_c h6, hb2]
            omega
          · rw [mPay_ne (by omega) (by omega) (by omega)]
            omega
        · exact WFo_congr n8 (fun i h1 h2 => mne i (by omega) (by omega) (by omega)) wo
        · unfold BRs
          rw [mne 4 (by omega) (by omega) (by omega), mne 5 (by omega) (by omega) (by omega), mne 6 (by omega) (by omega) (by omega), m7, cPay_ne (i := 1 + 1) _ _ _ (by omega) (by omega) (by omega), cPay_ne (i := 1 + 10) _ _ _ (by omega) (by omega) (by omega), cPay_ne (i := 1 + 30) _ _ _ (by omega) (by omega) (by omega), cPay_ne (i := 1 + 45) _ _ _ (by omega) (by omega) (by omega), cPay_1]
          refine ⟨s1, s2, s3, s4, s5, s6, by rw [upd_ne (by omega), upd_ne (by omega), upd_ne (by omega)]; exact s7, ?_⟩
          rw [upd_eq, show v.1 1 6 = w 7 from s8]
          rw [hg0, hg1]
        · exact BRp_congr n5 (fun o h1 h2 => cPay_ne _ _ _ (by omega) (by omega) (by omega)) (fun i h1 h2 => mne i (by omega) (by omega) (by omega)) bp
        · intro i hi
          have h1 := bc i hi
          rw [mne (72 + 12 * i) (by omega) (by omega) (by omega), mne (72 + 12 * i + 1) (by omega) (by omega) (by omega), mne (72 + 12 * i + 2) (by omega) (by omega) (by omega), mne (72 + 12 * i + 3) (by omega) (by omega) (by omega), mne (72 + 12 * i + 5) (by omega) (by omega) (by omega), cPay_ne (i := 1 + 11) _ _ _ (by omega) (by omega) (by omega), cPay_ne (i := 1 + 12) _ _ _ (by omega) (by omega) (by omega), cPay_ne (i := 1 + 13) _ _ _ (by omega) (by omega) (by omega), cPay_ne (i := 1 + 14) _ _ _ (by omega) (by omega) (by omega), cPay_ne (i := 1 + 16) _ _ _ (by omega) (by omega) (by omega), show 1 + 15 = 16 from rfl, cPay_16]
          refine ⟨h1.1, h1.2.1, h1.2.2.1, h1.2.2.2.1, ?_, h1.2.2.2.2.2.1, fun o ho => ?_⟩
          · by_cases e2 : i = k
            · subst e2
              rw [upd_eq, mp, b5]
            · rw [upd_ne e2, mne _ (by omega) (by omega) (by omega)]
              exact h1.2.2.2.2.1
          · rw [cPay_ne _ _ _ (by omega) (by omega) (by omega), mne _ (by omega) (by omega) (by omega)]
            exact h1.2.2.2.2.2.2 o ho
        · exact BRt_congr n7 (fun o h1 h2 => cPay_ne _ _ _ (by omega) (by omega) (by omega)) (fun i h1 h2 => mne i (by omega) (by omega) (by omega)) bt
        · intro p d hp hd
          have h1 := be p d hp hd
          have h1' : v.1 (40 + p) d = w (264 + 6 * p + d) := h1
          rw [show 1 + 39 + p = 40 + p from rfl]
          by_cases h6 : t < 6 ∧ p = s
          · obtain ⟨h6, rfl⟩ := h6
            rw [cPay_cell _ _ _ h6]
            by_cases hd2 : d = t - p
            · subst hd2
              have hidx : 264 + 6 * p + (t - p) = 264 + 6 * p + t - p := by omega
              rw [hidx] at h1' ⊢
              rw [upd_eq, mPay_c h6, h1']
            · rw [upd_ne hd2, mPay_ne (by omega) (by omega) (by omega)]
              exact h1'
          · rw [cPay_ne _ _ _ (by omega) (by omega) (by omega), mPay_ne (by omega) (by omega) (by omega)]
            exact h1'
        · exact BRo_congr n8 (fun o h1 h2 => cPay_ne _ _ _ (by omega) (by omega) (by omega)) (fun i h1 h2 => mne i (by omega) (by omega) (by omega)) bo
        · have hb := bk.1
          rw [cPay_1]
          simp (disch := omega) only [upd_is, upd_ne]
          rw [hb]
          generalize v.1 1 7 = r7
          generalize v.1 1 8 = r8
          generalize v.1 1 9 = r9
          generalize v.1 1 10 = r10
          generalize v.1 1 11 = r11
          grind
        · intro o ho
          have h1 := bk.2 o ho
          rw [cPay_ne _ _ _ (by omega) (by omega) (by omega), mne _ (by omega) (by omega) (by omega), sI_congr (g := fun i => prt w i o) fun i hi => by unfold prt; rw [mne _ (by omega) (by omega) (by omega)]]
          exact h1
        · exact chars_congr (cPay_ne _ _ _ (by omega) (by omega) (by omega)) bx
      · refine ⟨?_, fun _ => ⟨?_, Or.inr (Or.inr ?_)⟩, fun h => ?_⟩
        · simp (disch := omega) only [p_X1_payPart_130, p_X1_payPart_117, p_X1_payPart_106, p_X1_payPart_96, p_X1_payPart_62, p_X1_payPart_16, p_X1_payPart_8, p_X1_payPart_0, p_X1_payPart, pp, pf', P_X11_checkedNumber, F_X11_checkedNumber, hc, hu, hup, hle, li_0, li_1, li_2, li_3, li_4, li_5, li_6, li_7, li_8, li_9, li_10, li_11, li_12, li_29, li_30, li_32, li_33, li_35, li_42, li_43, li_45, li_47, li_48, li_50, li_57, li_58, li_59, li_60, li_61, li_63, li_64, li_67, li_68, li_72, li_78, li_79, li_80, li_97, li_99, li_100, li_101, li_102, li_103, li_105, li_108, li_109, li_110, li_111, li_112, li_114, li_115, li_116, li_117, li_118, li_119, li_120, li_121, li_126, li_216, li_232, li_240, li_264, li_300, li_1000, li_1000000, li_2147483647, reduceIte, if_true, if_false, true_and, and_true, false_and, and_false, and_self, not_true_eq_false, not_false_eq_true, true_implies, false_implies, implies_true, forall_const, Bool.false_eq_true, el_l, el_r, Sum.inl.injEq, reduceCtorEq, forall_eq, forall_eq']
        · simp (disch := omega) only [f_X1_payPart_130, f_X1_payPart_117, f_X1_payPart_106, f_X1_payPart_96, f_X1_payPart_62, f_X1_payPart_16, f_X1_payPart_8, f_X1_payPart_0, f_X1_payPart, pf', F_X11_checkedNumber, hc, hu, hle, li_0, li_1, li_2, li_3, li_4, li_5, li_6, li_7, li_8, li_9, li_10, li_11, li_12, li_29, li_30, li_32, li_33, li_35, li_42, li_43, li_45, li_47, li_48, li_50, li_57, li_58, li_59, li_60, li_61, li_63, li_64, li_67, li_68, li_72, li_78, li_79, li_80, li_97, li_99, li_100, li_101, li_102, li_103, li_105, li_108, li_109, li_110, li_111, li_112, li_114, li_115, li_116, li_117, li_118, li_119, li_120, li_121, li_126, li_216, li_232, li_240, li_264, li_300, li_1000, li_1000000, li_2147483647, reduceIte, if_true, if_false, true_and, and_true, false_and, and_false, and_self, not_true_eq_false, not_false_eq_true, true_implies, false_implies, implies_true, forall_const, Bool.false_eq_true, el_l, el_r, Sum.inl.injEq, reduceCtorEq, forall_eq, forall_eq', Option.elim, z3]
        · simp only [Option.elim, hc, hle, if_true, if_false]
        · simp only [Option.elim, hc, hle, if_true, if_false, q3] at h
