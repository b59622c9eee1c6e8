/-! the class' treaties: made, dropped -/
def cTre (v : gV) (n : Nat) (a b c d : Int32) : gV := vRow (vRow (vRow (vRow (vRow (vRow v 32 (upd (v.1 32) n a)) 33 (upd (v.1 33) n b)) 34 (upd (v.1 34) n c)) 35 (upd (v.1 35) n c)) 31 (upd (v.1 31) 6 (nI (n + 1)))) 1 (upd (upd (v.1 1) 9 (v.1 1 9 + d)) 6 (v.1 1 6 - d))
theorem cTre_ne (v : gV) (n : Nat) (a b c d : Int32) {i : Nat} (h : ¬ i = 1) (h2 : i < 31 ∨ 35 < i) : (cTre v n a b c d).1 i = v.1 i := by
  unfold cTre
  simp (disch := omega) only [vRow_ne]
theorem cTre_Fr (v : gV) (n : Nat) (a b c d : Int32) : Fr v (cTre v n a b c d) := ⟨rfl, fun j hj => by
  unfold cTre
  simp (disch := omega) only [vRow_ne]⟩
theorem mTre_ne (w : Nat → Int32) {n : Nat} (a b c d : Int32) {i : Nat} (h : i < 216 + 4 * n ∨ 216 + 4 * n + 3 ≤ i) (h7 : ¬ i = 7) (h2 : ¬ i = 2) : mTre w n a b c d i = w i := by
  unfold mTre
  simp (disch := omega) only [upd_ne]
def eTre (y : Int32) : String := if y = nI 1 then "java/lang/IllegalArgumentException" else "java/lang/IllegalStateException"
theorem yTre_0 {w : Nat → Int32} {a b c d : Int32} (h : yTre w a b c d = nI 0) : inb a (nI 0) (nI 29) = true ∧ inb b (nI 1) (nI 30) = true ∧ inb c (nI 1) (nI 99) = true ∧ inb d (nI 0) (nI 99) = true ∧ ¬ w 2 = nI 4 := by
  have q1 : ¬ nI 1 = nI 0 := n10
  have q2 : ¬ nI 2 = nI 0 := by decide +kernel
  unfold yTre at h
  by_cases a1 : inb a (nI 0) (nI 29) = true
  · rw [if_pos a1] at h
    by_cases a2 : inb b (nI 1) (nI 30) = true
    · rw [if_pos a2] at h
      by_cases a3 : inb c (nI 1) (nI 99) = true
      · rw [if_pos a3] at h
        by_cases a4 : inb d (nI 0) (nI 99) = true
        · rw [if_pos a4] at h
          by_cases a5 : w 2 = nI 4
          · rw [if_pos a5] at h; exact absurd h q2
          · exact ⟨a1, a2, a3, a4, a5⟩
        · rw [if_neg a4] at h; exact absurd h q1
      · rw [if_neg a3] at h; exact absurd h q1
    · rw [if_neg a2] at h; exact absurd h q1
  · rw [if_neg a1] at h; exact absurd h q1
theorem K_makeTreaty (a b c d : Int32) (v : gV) {w : Nat → Int32} {B np nc nt no : Nat} (h : BR B v 1 w np nc nt no) (hy : yTre w a b c d = nI 0) : p_X1_makeTreaty 1 a b c d v ∧ nt < 4 ∧ ∃ v', f_X1_makeTreaty 1 a b c d v = (Sum.inl (nI nt), v') ∧ Fr v v' ∧ BR (B + 1) v' 1 (mTre w nt a b c d) np nc (nt + 1) no := by
  obtain ⟨hw, hs, wp, wc, wt, we, wo, bs, bp, bc, bt, be, bo, bk, bx⟩ := h
  obtain ⟨n1, n2, n3, n4, n5, n6, n7, n8⟩ := id hw
  obtain ⟨s1, s2, s3, s4, s5, s6, s7, s8⟩ := id bs
  obtain ⟨h1, h2, h3, h4, h5⟩ := yTre_0 hy
  have hn : nt < 4 := by
    rw [n3, eq_n (by omega) (by omega)] at h5
    omega
  have s5' : v.1 31 6 = nI nt := s5
  have hx : inx (nI nt) (nI 4) = true := inx_nI (by omega) hn
  have hf : f_X1_makeTreaty 1 a b c d v = (Sum.inl (nI nt), cTre v nt a b c d) := by
    unfold cTre
    simp (disch := omega) only [f_X1_makeTreaty_43, f_X1_makeTreaty_32, f_X1_makeTreaty_19, f_X1_makeTreaty_8, f_X1_makeTreaty_0, f_X1_makeTreaty, f_X8_add_76, f_X8_add_66, f_X8_add_58, f_X8_add_50, f_X8_add_42, f_X8_add_32, f_X8_add_23, f_X8_add_15, f_X8_add_7, f_X8_add_0, f_X8_add, F_X11_checkedNumber, F_X11_freePlace, Nat.reduceAdd, li_0, li_1, li_2, li_3, li_4, li_5, li_6, li_7, li_8, li_9, li_10, li_11, li_12, li_29, li_30, li_32, li_33, li_35, li_42, li_43, li_45, li_47, li_48, li_50, li_57, li_58, li_59, li_60, li_61, li_63, li_64, li_67, li_68, li_72, li_78, li_79, li_80, li_97, li_99, li_100, li_101, li_102, li_103, li_105, li_108, li_109, li_110, li_111, li_112, li_114, li_115, li_116, li_117, li_118, li_119, li_120, li_121, li_126, li_216, li_232, li_240, li_264, li_300, li_1000, li_1000000, li_2147483647, nI_add, nI_mul, cl_n, vi_n, sub_n, h1, h2, h3, h4, s5', hx, reduceIte, if_true, if_false, true_and, and_true, false_and, and_false, and_self, not_true_eq_false, not_false_eq_true, true_implies, false_implies, implies_true, forall_const, Bool.false_eq_true, el_l, el_r, Sum.inl.injEq, reduceCtorEq, forall_eq, forall_eq', vM_rw, vRow_row, vRow_eq, vRow_ne, upd_is, upd_ne]
  refine ⟨?_, hn, _, hf, cTre_Fr v nt a b c d, ?_⟩
  · simp (disch := omega) only [p_X1_makeTreaty_43, p_X1_makeTreaty_32, p_X1_makeTreaty_19, p_X1_makeTreaty_8, p_X1_makeTreaty_0, p_X1_makeTreaty, p_X8_add_76, p_X8_add_66, p_X8_add_58, p_X8_add_50, p_X8_add_42, p_X8_add_32, p_X8_add_23, p_X8_add_15, p_X8_add_7, p_X8_add_0, p_X8_add, f_X8_add_76, f_X8_add_66, f_X8_add_58, f_X8_add_50, f_X8_add_42, f_X8_add_32, f_X8_add_23, f_X8_add_15, f_X8_add_7, f_X8_add_0, f_X8_add, F_X11_checkedNumber, P_X11_checkedNumber, F_X11_freePlace, P_X11_freePlace, Nat.reduceAdd, li_0, li_1, li_2, li_3, li_4, li_5, li_6, li_7, li_8, li_9, li_10, li_11, li_12, li_29, li_30, li_32, li_33, li_35, li_42, li_43, li_45, li_47, li_48, li_50, li_57, li_58, li_59, li_60, li_61, li_63, li_64, li_67, li_68, li_72, li_78, li_79, li_80, li_97, li_99, li_100, li_101, li_102, li_103, li_105, li_108, li_109, li_110, li_111, li_112, li_114, li_115, li_116, li_117, li_118, li_119, li_120, li_121, li_126, li_216, li_232, li_240, li_264, li_300, li_1000, li_1000000, li_2147483647, nI_add, nI_mul, cl_n, vi_n, sub_n, h1, h2, h3, h4, s5', hx, reduceIte, if_true, if_false, true_and, and_true, false_and, and_false, and_self, not_true_eq_false, not_false_eq_true, true_implies, false_implies, implies_true, forall_const, Bool.false_eq_true, el_l, el_r, Sum.inl.injEq, reduceCtorEq, forall_eq, forall_eq', vM_rw, vRow_row, vRow_eq, vRow_ne, upd_is, upd_ne]
  rw [inb_t, tI (by omega), tI (by omega)] at h1 h2 h3 h4
  have mne : ∀ i, i < 216 + 4 * nt ∨ 216 + 4 * nt + 3 ≤ i → ¬ i = 7 → ¬ i = 2 → mTre w nt a b c d i = w i := fun i => mTre_ne w a b c d
  have m2 : mTre w nt a b c d 2 = nI (nt + 1) := upd_eq _ _ _
  have m7 : mTre w nt a b c d 7 = w 7 - d := by unfold mTre; simp (disch := omega) only [upd_is, upd_ne]
  have mt0 : mTre w nt a b c d (216 + 4 * nt) = a := by unfold mTre; simp (disch := omega) only [upd_is, upd_ne]
  have mt1 : mTre w nt a b c d (216 + 4 * nt + 1) = b := by unfold mTre; simp (disch := omega) only [upd_is, upd_ne]
  have mt2 : mTre w nt a b c d (216 + 4 * nt + 2) = c := by unfold mTre; simp (disch := omega) only [upd_is, upd_ne]
  refine ⟨⟨?_, ?_, m2, ?_, n5, n6, by omega, n8⟩, ?_, ?_, ⟨?_, ?_⟩, ?_, ?_, ?_, ?_, ?_, ?_, ?_, ?_, ?_, ⟨?_, ?_⟩, ?_⟩
  · rw [mne 0 (by omega) (by omega) (by omega)]; exact n1
  · rw [mne 1 (by omega) (by omega) (by omega)]; exact n2
  · rw [mne 3 (by omega) (by omega) (by omega)]; exact n4
  · unfold WFs at hs ⊢
    rw [mne 4 (by omega) (by omega) (by omega), mne 5 (by omega) (by omega) (by omega), mne 6 (by omega) (by omega) (by omega)]
    omega
  · exact WFp_congr n5 (by omega) (by rw [mne 4 (by omega) (by omega) (by omega)]; exact Int.le_refl _) (fun i _ _ => mne i (by omega) (by omega) (by omega)) wp
  · intro k hk
    obtain ⟨c1, c2, ⟨q, hq, c3⟩, c4, c5, c6, c7, c8, c9, c10, c11, c12, c13⟩ := wc.1 k hk
    have hprt : ∀ o, o < 4 → prt (mTre w nt a b c d) k o = prt w k o := fun o ho => by unfold prt; rw [mne _ (by omega) (by omega) (by omega)]
    unfold WFc1
    rw [mne 5 (by omega) (by omega) (by omega), mne 6 (by omega) (by omega) (by omega), mne (72 + 12 * k) (by omega) (by omega) (by omega), mne (72 + 12 * k + 1) (by omega) (by omega) (by omega), mne (72 + 12 * k + 2) (by omega) (by omega) (by omega), mne (72 + 12 * k + 3) (by omega) (by omega) (by omega), mne (72 + 12 * k + 4) (by omega) (by omega) (by omega), mne (72 + 12 * k + 5) (by omega) (by omega) (by omega)]
    exact ⟨c1, c2, ⟨q, hq, by rw [mne _ (by omega) (by omega) (by omega)]; exact c3⟩, c4, c5, c6, c7, c8, c9, c10, fun o ho => by rw [hprt o ho]; exact c11 o ho, by rw [sI_congr hprt]; exact c12, fun o ho h2 => by rw [mne _ (by omega) (by omega) (by omega)]; exact c13 o ho (by omega)⟩
  · intro j k hj hk
    rw [mne _ (by omega) (by omega) (by omega), mne _ (by omega) (by omega) (by omega)]
    exact wc.2 j k hj hk
  · intro k hk
    by_cases e : k = nt
    · subst e
      rw [mt0, mt1, mt2]
      omega
    · rw [mne (216 + 4 * k) (by omega) (by omega) (by omega), mne (216 + 4 * k + 1) (by omega) (by omega) (by omega), mne (216 + 4 * k + 2) (by omega) (by omega) (by omega)]
      exact wt k (by omega)
  · exact WFe_congr (by omega) (fun i _ _ => mne i (by omega) (by omega) (by omega)) we
  · exact WFo_congr n8 (fun i _ _ => mne i (by omega) (by omega) (by omega)) wo
  · unfold BRs
    rw [mne 4 (by omega) (by omega) (by omega), mne 5 (by omega) (by omega) (by omega), mne 6 (by omega) (by omega) (by omega), m7, cTre_ne (i := 1 + 1) _ _ _ _ _ _ (by omega) (by omega), cTre_ne (i := 1 + 10) _ _ _ _ _ _ (by omega) (by omega), cTre_ne (i := 1 + 45) _ _ _ _ _ _ (by omega) (by omega)]
    unfold cTre
    simp (disch := omega) only [Nat.reduceAdd, vRow_eq, vRow_ne, upd_is, upd_ne]
    exact ⟨s1, s2, s3, s4, trivial, s6, s7, by rw [show v.1 1 6 = w 7 from s8]⟩
  · exact BRp_congr n5 (fun o _ _ => cTre_ne _ _ _ _ _ _ (by omega) (by omega)) (fun i _ _ => mne i (by omega) (by omega) (by omega)) bp
  · exact BRc_congr n6 (fun o _ _ => cTre_ne _ _ _ _ _ _ (by omega) (by omega)) (fun i _ _ => mne i (by omega) (by omega) (by omega)) bc
  · intro k hk
    by_cases e : k = nt
    · subst e
      rw [mt0, mt1, mt2]
      unfold cTre
      simp (disch := omega) only [Nat.reduceAdd, vRow_eq, vRow_ne, upd_is, upd_ne, and_self]
    · rw [mne (216 + 4 * k) (by omega) (by omega) (by omega), mne (216 + 4 * k + 1) (by omega) (by omega) (by omega), mne (216 + 4 * k + 2) (by omega) (by omega) (by omega)]
      unfold cTre
      simp (disch := omega) only [Nat.reduceAdd, vRow_eq, vRow_ne, upd_is, upd_ne]
      exact bt k (by omega)
  · exact BRe_congr (fun o _ _ => cTre_ne _ _ _ _ _ _ (by omega) (by omega)) (fun i _ _ => mne i (by omega) (by omega) (by omega)) be
  · exact BRo_congr n8 (fun o _ _ => cTre_ne _ _ _ _ _ _ (by omega) (by omega)) (fun i _ _ => mne i (by omega) (by omega) (by omega)) bo
  · have hb := bk.1
    unfold cTre
    simp (disch := omega) only [vRow_eq, upd_is, upd_ne]
    rw [hb]
    generalize v.1 1 7 = r7
    generalize v.1 1 8 = r8
    generalize v.1 1 9 = r9
    generalize v.1 1 10 = r10
    generalize v.1 1 11 = r11
    grind
  · intro k hk
    have h35 : (cTre v nt a b c d).1 (1 + 34) = upd (v.1 35) nt c := by
      unfold cTre
      simp (disch := omega) only [Nat.reduceAdd, vRow_eq, vRow_ne]
    rw [h35, sI_congr (g := fun i => prt w i k) fun i hi => by unfold prt; rw [mne _ (by omega) (by omega) (by omega)]]
    by_cases e : k = nt
    · subst e
      rw [upd_eq, mt2]
      have hz : sI (fun i => prt w i k) nc = 0 := by
        rw [sI_congr (g := fun _ => 0) fun i hi => by
          obtain ⟨c1, c2, c3, c4, c5, c6, c7, c8, c9, c10, c11, c12, c13⟩ := wc.1 i hi
          unfold prt
          rw [c13 k (by omega) (by omega), tI (by omega)]
          rfl]
        have h0 : ∀ n, sI (fun _ => 0) n = 0 := fun n => by
          induction n with
          | zero => rfl
          | succ n ih => show sI (fun _ => 0) n + 0 = 0; rw [ih]; rfl
        exact h0 nc
      rw [hz]
      omega
    · rw [upd_ne e, mne (216 + 4 * k + 2) (by omega) (by omega) (by omega)]
      exact bk.2 k (by omega)
  · exact chars_congr (cTre_ne _ _ _ _ _ _ (by omega) (by omega)) bx
theorem Y_makeTreaty (a b c d : Int32) (v : gV) {w : Nat → Int32} {B np nc nt no : Nat} (h : BR B v 1 w np nc nt no) (hy : ¬ yTre w a b c d = nI 0) : p_X1_makeTreaty 1 a b c d v ∧ f_X1_makeTreaty 1 a b c d v = (Sum.inr (eTre (yTre w a b c d)), v) ∧ (yTre w a b c d = nI 1 ∨ yTre w a b c d = nI 2) := by
  obtain ⟨hw, hs, wp, wc, wt, we, wo, bs, bp, bc, bt, be, bo, bk, bx⟩ := h
  obtain ⟨n1, n2, n3, n4, n5, n6, n7, n8⟩ := id hw
  obtain ⟨s1, s2, s3, s4, s5, s6, s7, s8⟩ := id bs
  have s5' : v.1 31 6 = nI nt := s5
  have z1 : eTre (nI 1) = "java/lang/IllegalArgumentException" := rfl
  have z2 : eTre (nI 2) = "java/lang/IllegalStateException" := rfl
  unfold yTre at hy ⊢
  cases h4 : inb d (nI 0) (nI 99) with
  | false =>
    have hyy : (if inb a (nI 0) (nI 29) = true then (if inb b (nI 1) (nI 30) = true then (if inb c (nI 1) (nI 99) = true then (if false = true then (if w 2 = nI 4 then nI 2 else nI 0) else nI 1) else nI 1) else nI 1) else nI 1) = nI 1 := by
      cases inb a (nI 0) (nI 29) <;> cases inb b (nI 1) (nI 30) <;> cases inb c (nI 1) (nI 99) <;> rfl
    rw [hyy]
    refine ⟨?_, ?_, Or.inl rfl⟩
    · simp only [p_X1_makeTreaty_43, p_X1_makeTreaty_32, p_X1_makeTreaty_19, p_X1_makeTreaty_8, p_X1_makeTreaty_0, p_X1_makeTreaty, F_X11_checkedNumber, P_X11_checkedNumber, li_0, li_1, li_2, li_3, li_4, li_5, li_6, li_7, li_8, li_9, li_10, li_11, li_12, li_29, li_30, li_32, li_33, li_35, li_42, li_43, li_45, li_47, li_48, li_50, li_57, li_58, li_59, li_60, li_61, li_63, li_64, li_67, li_68, li_72, li_78, li_79, li_80, li_97, li_99, li_100, li_101, li_102, li_103, li_105, li_108, li_109, li_110, li_111, li_112, li_114, li_115, li_116, li_117, li_118, li_119, li_120, li_121, li_126, li_216, li_232, li_240, li_264, li_300, li_1000, li_1000000, li_2147483647, h4, reduceIte, if_true, if_false, true_and, and_true, false_and, and_false, and_self, not_true_eq_false, not_false_eq_true, true_implies, false_implies, implies_true, forall_const, Bool.false_eq_true, el_l, el_r, Sum.inl.injEq, reduceCtorEq, forall_eq, forall_eq']
    · simp only [f_X1_makeTreaty_43, f_X1_makeTreaty_32, f_X1_makeTreaty_19, f_X1_makeTreaty_8, f_X1_makeTreaty_0, f_X1_makeTreaty, F_X11_checkedNumber, li_0, li_1, li_2, li_3, li_4, li_5, li_6, li_7, li_8, li_9, li_10, li_11, li_12, li_29, li_30, li_32, li_33, li_35, li_42, li_43, li_45, li_47, li_48, li_50, li_57, li_58, li_59, li_60, li_61, li_63, li_64, li_67, li_68, li_72, li_78, li_79, li_80, li_97, li_99, li_100, li_101, li_102, li_103, li_105, li_108, li_109, li_110, li_111, li_112, li_114, li_115, li_116, li_117, li_118, li_119, li_120, li_121, li_126, li_216, li_232, li_240, li_264, li_300, li_1000, li_1000000, li_2147483647, h4, reduceIte, if_true, if_false, true_and, and_true, false_and, and_false, and_self, not_true_eq_false, not_false_eq_true, true_implies, false_implies, implies_true, forall_const, Bool.false_eq_true, el_l, el_r, Sum.inl.injEq, reduceCtorEq, forall_eq, forall_eq', z1]
  | true =>
    rw [h4] at hy
    cases h1 : inb a (nI 0) (nI 29) with
    | false =>
      refine ⟨?_, ?_, Or.inl rfl⟩
      · simp only [p_X1_makeTreaty_43, p_X1_makeTreaty_32, p_X1_makeTreaty_19, p_X1_makeTreaty_8, p_X1_makeTreaty_0, p_X1_makeTreaty, p_X8_add_76, p_X8_add_66, p_X8_add_58, p_X8_add_50, p_X8_add_42, p_X8_add_32, p_X8_add_23, p_X8_add_15, p_X8_add_7, p_X8_add_0, p_X8_add, f_X8_add_76, f_X8_add_66, f_X8_add_58, f_X8_add_50, f_X8_add_42, f_X8_add_32, f_X8_add_23, f_X8_add_15, f_X8_add_7, f_X8_add_0, f_X8_add, F_X11_checkedNumber, P_X11_checkedNumber, li_0, li_1, li_2, li_3, li_4, li_5, li_6, li_7, li_8, li_9, li_10, li_11, li_12, li_29, li_30, li_32, li_33, li_35, li_42, li_43, li_45, li_47, li_48, li_50, li_57, li_58, li_59, li_60, li_61, li_63, li_64, li_67, li_68, li_72, li_78, li_79, li_80, li_97, li_99, li_100, li_101, li_102, li_103, li_105, li_108, li_109, li_110, li_111, li_112, li_114, li_115, li_116, li_117, li_118, li_119, li_120, li_121, li_126, li_216, li_232, li_240, li_264, li_300, li_1000, li_1000000, li_2147483647, h4, h1, reduceIte, if_true, if_false, true_and, and_true, false_and, and_false, and_self, not_true_eq_false, not_false_eq_true, true_implies, false_implies, implies_true, forall_const, Bool.false_eq_true, el_l, el_r, Sum.inl.injEq, reduceCtorEq, forall_eq, forall_eq']
      · simp only [f_X1_makeTreaty_43, f_X1_makeTreaty_32, f_X1_makeTreaty_19, f_X1_makeTreaty_8, f_X1_makeTreaty_0, f_X1_makeTreaty, f_X8_add_76, f_X8_add_66, f_X8_add_58, f_X8_add_50, f_X8_add_42, f_X8_add_32, f_X8_add_23, f_X8_add_15, f_X8_add_7, f_X8_add_0, f_X8_add, F_X11_checkedNumber, li_0, li_1, li_2, li_3, li_4, li_5, li_6, li_7, li_8, li_9, li_10, li_11, li_12, li_29, li_30, li_32, li_33, li_35, li_42, li_43, li_45, li_47, li_48, li_50, li_57, li_58, li_59, li_60, li_61, li_63, li_64, li_67, li_68, li_72, li_78, li_79, li_80, li_97, li_99, li_100, li_101, li_102, li_103, li_105, li_108, li_109, li_110, li_111, li_112, li_114, li_115, li_116, li_117, li_118, li_119, li_120, li_121, li_126, li_216, li_232, li_240, li_264, li_300, li_1000, li_1000000, li_2147483647, h4, h1, reduceIte, if_true, if_false, true_and, and_true, false_and, and_false, and_self, not_true_eq_false, not_false_eq_true, true_implies, false_implies, implies_true, forall_const, Bool.false_eq_true, el_l, el_r, Sum.inl.injEq, reduceCtorEq, forall_eq, forall_eq', z1]
    | true =>
      rw [h1, if_pos rfl] at hy
      cases h2 : inb b (nI 1) (nI 30) with
      | false =>
        refine ⟨?_, ?_, Or.inl rfl⟩
        · simp only [p_X1_makeTreaty_43, p_X1_makeTreaty_32, p_X1_makeTreaty_19, p_X1_makeTreaty_8, p_X1_makeTreaty_0, p_X1_makeTreaty, p_X8_add_76, p_X8_add_66, p_X8_add_58, p_X8_add_50, p_X8_add_42, p_X8_add_32, p_X8_add_23, p_X8_add_15, p_X8_add_7, p_X8_add_0, p_X8_add, f_X8_add_76, f_X8_add_66, f_X8_add_58, f_X8_add_50, f_X8_add_42, f_X8_add_32, f_X8_add_23, f_X8_add_15, f_X8_add_7, f_X8_add_0, f_X8_add, F_X11_checkedNumber, P_X11_checkedNumber, li_0, li_1, li_2, li_3, li_4, li_5, li_6, li_7, li_8, li_9, li_10, li_11, li_12, li_29, li_30, li_32, li_33, li_35, li_42, li_43, li_45, li_47, li_48, li_50, li_57, li_58, li_59, li_60, li_61, li_63, li_64, li_67, li_68, li_72, li_78, li_79, li_80, li_97, li_99, li_100, li_101, li_102, li_103, li_105, li_108, li_109, li_110, li_111, li_112, li_114, li_115, li_116, li_117, li_118, li_119, li_120, li_121, li_126, li_216, li_232, li_240, li_264, li_300, li_1000, li_1000000, li_2147483647, h4, h1, h2, reduceIte, if_true, if_false, true_and, and_true, false_and, and_false, and_self, not_true_eq_false, not_false_eq_true, true_implies, false_implies, implies_true, forall_const, Bool.false_eq_true, el_l, el_r, Sum.inl.injEq, reduceCtorEq, forall_eq, forall_eq']
        · simp only [f_X1_makeTreaty_43, f_X1_makeTreaty_32, f_X1_makeTreaty_19, f_X1_makeTreaty_8, f_X1_makeTreaty_0, f_X1_makeTreaty, f_X8_add_76, f_X8_add_66, f_X8_add_58, f_X8_add_50, f_X8_add_42, f_X8_add_32, f_X8_add_23, f_X8_add_15, f_X8_add_7, f_X8_add_0, f_X8_add, F_X11_checkedNumber, li_0, li_1, li_2, li_3, li_4, li_5, li_6, li_7, li_8, li_9, li_10, li_11, li_12, li_29, li_30, li_32, li_33, li_35, li_42, li_43, li_45, li_47, li_48, li_50, li_57, li_58, li_59, li_60, li_61, li_63, li_64, li_67, li_68, li_72, li_78, li_79, li_80, li_97, li_99, li_100, li_101, li_102, li_103, li_105, li_108, li_109, li_110, li_111, li_112, li_114, li_115, li_116, li_117, li_118, li_119, li_120, li_121, li_126, li_216, li_232, li_240, li_264, li_300, li_1000, li_1000000, li_2147483647, h4, h1, h2, reduceIte, if_true, if_false, true_and, and_true, false_and, and_false, and_self, not_true_eq_false, not_false_eq_true, true_implies, false_implies, implies_true, forall_const, Bool.false_eq_true, el_l, el_r, Sum.inl.injEq, reduceCtorEq, forall_eq, forall_eq', z1]
      | true =>
        rw [h2, if_pos rfl] at hy
        cases h3 : inb c (nI 1) (nI 99) with
        | false =>
          refine ⟨?_, ?_, Or.inl rfl⟩
          · simp only [p_X1_makeTreaty_43, p_X1_makeTreaty_32, p_X1_makeTreaty_19, p_X1_makeTreaty_8, p_X1_makeTreaty_0, p_X1_makeTreaty, p_X8_add_76, p_X8_add_66, p_X8_add_58, p_X8_add_50, p_X8_add_42, p_X8_add_32, p_X8_add_23, p_X8_add_15, p_X8_add_7, p_X8_add_0, p_X8_add, f_X8_add_76, f_X8_add_66, f_X8_add_58, f_X8_add_50, f_X8_add_42, f_X8_add_32, f_X8_add_23, f_X8_add_15, f_X8_add_7, f_X8_add_0, f_X8_add, F_X11_checkedNumber, P_X11_checkedNumber, li_0, li_1, li_2, li_3, li_4, li_5, li_6, li_7, li_8, li_9, li_10, li_11, li_12, li_29, li_30, li_32, li_33, li_35, li_42, li_43, li_45, li_47, li_48, li_50, li_57, li_58, li_59, li_60, li_61, li_63, li_64, li_67, li_68, li_72, li_78, li_79, li_80, li_97, li_99, li_100, li_101, li_102, li_103, li_105, li_108, li_109, li_110, li_111, li_112, li_114, li_115, li_116, li_117, li_118, li_119, li_120, li_121, li_126, li_216, li_232, li_240, li_264, li_300, li_1000, li_1000000, li_2147483647, h4, h1, h2, h3, reduceIte, if_true, if_false, true_and, and_true, false_and, and_false, and_self, not_true_eq_false, not_false_eq_true, true_implies, false_implies, implies_true, forall_const, Bool.false_eq_true, el_l, el_r, Sum.inl.injEq, reduceCtorEq, forall_eq, forall_eq']
          · simp only [f_X1_makeTreaty_43, f_X1_makeTreaty_32, f_X1_makeTreaty_19, f_X1_makeTreaty_8, f_X1_makeTreaty_0, f_X1_makeTreaty, f_X8_add_76, f_X8_add_66, f_X8_add_58, f_X8_add_50, f_X8_add_42, f_X8_add_32, f_X8_add_23, f_X8_add_15, f_X8_add_7, f_X8_add_0, f_X8_add, F_X11_checkedNumber, li_0, li_1, li_2, li_3, li_4, li_5, li_6, li_7, li_8, li_9, li_10, li_11, li_12, li_29, li_30, li_32, li_33, li_35, li_42, li_43, li_45, li_47, li_48, li_50, li_57, li_58, li_59, li_60, li_61, li_63, li_64, li_67, li_68, li_72, li_78, li_79, li_80, li_97, li_99, li_100, li_101, li_102, li_103, li_105, li_108, li_109, li_110, li_111, li_112, li_114, li_115, li_116, li_117, li_118, li_119, li_120, li_121, li_126, li_216, li_232, li_240, li_264, li_300, li_1000, li_1000000, li_2147483647, h4, h1, h2, h3, reduceIte, if_true, if_false, true_and, and_true, false_and, and_false, and_self, not_true_eq_false, not_false_eq_true, true_implies, false_implies, implies_true, forall_const, Bool.false_eq_true, el_l, el_r, Sum.inl.injEq, reduceCtorEq, forall_eq, forall_eq', z1]
        | true =>
          rw [h3, if_pos rfl, if_pos rfl] at hy
          by_cases h5 : w 2 = nI 4
          · have hn : nt = 4 := by
              rw [n3, eq_n (by omega) (by omega)] at h5
              exact h5
            subst hn
            have hx : inx (nI 4) (nI 4) = false := by decide +kernel
            rw [if_pos rfl, if_pos rfl, if_pos rfl, if_pos rfl, if_pos h5]
            refine ⟨?_, ?_, Or.inr rfl⟩
            · simp only [p_X1_makeTreaty_43, p_X1_makeTreaty_32, p_X1_makeTreaty_19, p_X1_makeTreaty_8, p_X1_makeTreaty_0, p_X1_makeTreaty, p_X8_add_76, p_X8_add_66, p_X8_add_58, p_X8_add_50, p_X8_add_42, p_X8_add_32, p_X8_add_23, p_X8_add_15, p_X8_add_7, p_X8_add_0, p_X8_add, f_X8_add_76, f_X8_add_66, f_X8_add_58, f_X8_add_50, f_X8_add_42, f_X8_add_32, f_X8_add_23, f_X8_add_15, f_X8_add_7, f_X8_add_0, f_X8_add, F_X11_checkedNumber, P_X11_checkedNumber, F_X11_freePlace, P_X11_freePlace, Nat.reduceAdd, s5', hx, li_0, li_1, li_2, li_3, li_4, li_5, li_6, li_7, li_8, li_9, li_10, li_11, li_12, li_29, li_30, li_32, li_33, li_35, li_42, li_43, li_45, li_47, li_48, li_50, li_57, li_58, li_59, li_60, li_61, li_63, li_64, li_67, li_68, li_72, li_78, li_79, li_80, li_97, li_99, li_100, li_101, li_102, li_103, li_105, li_108, li_109, li_110, li_111, li_112, li_114, li_115, li_116, li_117, li_118, li_119, li_120, li_121, li_126, li_216, li_232, li_240, li_264, li_300, li_1000, li_1000000, li_2147483647, h4, h1, h2, h3, reduceIte, if_true, if_false, true_and, and_true, false_and, and_false, and_self, not_true_eq_false, not_false_eq_true, true_implies, false_implies, implies_true, forall_const, Bool.false_eq_true, el_l, el_r, Sum.inl.injEq, reduceCtorEq, forall_eq, forall_eq']
            · simp only [f_X1_makeTreaty_43, f_X1_makeTreaty_32, f_X1_makeTreaty_19, f_X1_makeTreaty_8, f_X1_makeTreaty_0, f_X1_makeTreaty, f_X8_add_76, f_X8_add_66, f_X8_add_58, f_X8_add_50, f_X8_add_42, f_X8_add_32, f_X8_add_23, f_X8_add_15, f_X8_add_7, f_X8_add_0, f_X8_add, F_X11_checkedNumber, F_X11_freePlace, Nat.reduceAdd, s5', hx, li_0, li_1, li_2, li_3, li_4, li_5, li_6, li_7, li_8, li_9, li_10, li_11, li_12, li_29, li_30, li_32, li_33, li_35, li_42, li_43, li_45, li_47, li_48, li_50, li_57, li_58, li_59, li_60, li_61, li_63, li_64, li_67, li_68, li_72, li_78, li_79, li_80, li_97, li_99, li_100, li_101, li_102, li_103, li_105, li_108, li_109, li_110, li_111, li_112, li_114, li_115, li_116, li_117, li_118, li_119, li_120, li_121, li_126, li_216, li_232, li_240, li_264, li_300, li_1000, li_1000000, li_2147483647, h4, h1, h2, h3, reduceIte, if_true, if_false, true_and, and_true, false_and, and_false, and_self, not_true_eq_false, not_false_eq_true, true_implies, false_implies, implies_true, forall_const, Bool.false_eq_true, el_l, el_r, Sum.inl.injEq, reduceCtorEq, forall_eq, forall_eq', z2]
          · exact absurd (if_neg h5) hy
