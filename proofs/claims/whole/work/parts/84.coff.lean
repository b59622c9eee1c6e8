/-! the class' offers and days -/
def cOff (v : gV) (n : Nat) (a b c : Int32) : gV := vRow (vRow (vRow (vRow v 47 (upd (v.1 47) n a)) 48 (upd (v.1 48) n b)) 49 (upd (v.1 49) n c)) 46 (upd (v.1 46) 4 (nI (n + 1)))
theorem cOff_ne (v : gV) (n : Nat) (a b c : Int32) {i : Nat} (h : i < 46 ∨ 49 < i) : (cOff v n a b c).1 i = v.1 i := by
  unfold cOff
  simp (disch := omega) only [vRow_ne]
theorem mOff_ne (w : Nat → Int32) {n : Nat} (a b c : Int32) {i : Nat} (h : i < 232 + 4 * n ∨ 232 + 4 * n + 3 ≤ i) (h3 : ¬ i = 3) : mOff w n a b c i = w i := by
  unfold mOff
  simp (disch := omega) only [upd_ne]
theorem days_t {a b : Int32} : days a b = true ↔ 0 ≤ a.toInt ∧ a.toInt ≤ b.toInt ∧ b.toInt ≤ 99 := by
  unfold days
  rw [Bool.and_eq_true, Bool.and_eq_true, inb_t, inb_t, decide_eq_true_iff, i_le, tI (by omega), tI (by omega)]
  omega
theorem yOff_0 {w : Nat → Int32} {a b c : Int32} (h : yOff w a b c = nI 0) : days a b = true ∧ inb c (nI 1) (nI 50) = true ∧ ¬ w 3 = nI 8 := by
  have q1 : ¬ nI 1 = nI 0 := n10
  have q2 : ¬ nI 2 = nI 0 := by decide +kernel
  unfold yOff at h
  by_cases a1 : days a b = true
  · rw [if_pos a1] at h
    by_cases a2 : inb c (nI 1) (nI 50) = true
    · rw [if_pos a2] at h
      by_cases a5 : w 3 = nI 8
      · rw [if_pos a5] at h; exact absurd h q2
      · exact ⟨a1, a2, a5⟩
    · rw [if_neg a2] at h; exact absurd h q1
  · rw [if_neg a1] at h; exact absurd h q1
theorem K_addOffer (a b c : Int32) (v : gV) {w : Nat → Int32} {B np nc nt no : Nat} (h : BR B v 1 w np nc nt no) : p_X4_add 1 a b c v ∧ (¬ yOff w a b c = nI 0 → f_X4_add 1 a b c v = (Sum.inr (eTre (yOff w a b c)), v) ∧ (yOff w a b c = nI 1 ∨ yOff w a b c = nI 2)) ∧ (yOff w a b c = nI 0 → no < 8 ∧ ∃ v', f_X4_add 1 a b c v = (Sum.inl (nI no), v') ∧ Fr v v' ∧ BR (B + 1) v' 1 (mOff w no a b c) np nc nt (no + 1)) := by
  obtain ⟨hw, hs, wp, wc, wt, we, wo, bs, bp, bc, bt, be, bo, bk, bx⟩ := h
  obtain ⟨n1, n2, n3, n4, n5, n6, n7, n8⟩ := id hw
  obtain ⟨s1, s2, s3, s4, s5, s6, s7, s8⟩ := id bs
  have s6' : v.1 46 4 = nI no := s6
  have q1 : ¬ nI 1 = nI 0 := n10
  have q2 : ¬ nI 2 = nI 0 := by decide +kernel
  have z1 : eTre (nI 1) = "java/lang/IllegalArgumentException" := rfl
  have z2 : eTre (nI 2) = "java/lang/IllegalStateException" := rfl
  have t0 : (nI 0).toInt = 0 := tI (by omega)
  have t99 : (nI 99).toInt = 99 := tI (by omega)
  have hd : days a b = true ↔ inb b (nI 0) (nI 99) = true ∧ inb a (nI 0) b = true := by
    rw [days_t, inb_t, inb_t, t0, t99]
    omega
  unfold yOff
  by_cases h1 : inb b (nI 0) (nI 99) = true
  · by_cases h2 : inb a (nI 0) b = true
    · have hdd : days a b = true := hd.mpr ⟨h1, h2⟩
      rw [if_pos hdd]
      by_cases h3 : inb c (nI 1) (nI 50) = true
      · rw [if_pos h3]
        by_cases h4 : w 3 = nI 8
        · have hn : no = 8 := by
            rw [n4, eq_n (by omega) (by omega)] at h4
            exact h4
          subst hn
          have hx : inx (nI 8) (nI 8) = false := by decide +kernel
          rw [if_pos h4]
          refine ⟨?_, fun _ => ⟨?_, Or.inr rfl⟩, fun h => absurd h q2⟩
          · simp only [p_X4_add_68, p_X4_add_58, p_X4_add_50, p_X4_add_42, p_X4_add_32, p_X4_add_22, p_X4_add_14, p_X4_add_7, p_X4_add_0, p_X4_add, F_X11_checkedNumber, P_X11_checkedNumber, F_X11_freePlace, P_X11_freePlace, Nat.reduceAdd, s6', hx, h1, h2, h3, li_0, li_1, li_2, li_3, li_4, li_5, li_6, li_7, li_8, li_9, li_10, li_11, li_12, li_29, li_30, li_32, li_33, li_35, li_42, li_43, li_45, li_47, li_48, li_50, li_57, li_58, li_59, li_60, li_61, li_63, li_64, li_67, li_68, li_72, li_78, li_79, li_80, li_97, li_99, li_100, li_101, li_102, li_103, li_105, li_108, li_109, li_110, li_111, li_112, li_114, li_115, li_116, li_117, li_118, li_119, li_120, li_121, li_126, li_216, li_232, li_240, li_264, li_300, li_1000, li_1000000, li_2147483647, reduceIte, if_true, if_false, true_and, and_true, false_and, and_false, and_self, not_true_eq_false, not_false_eq_true, true_implies, false_implies, implies_true, forall_const, Bool.false_eq_true, el_l, el_r, Sum.inl.injEq, reduceCtorEq, forall_eq, forall_eq']
          · simp only [f_X4_add_68, f_X4_add_58, f_X4_add_50, f_X4_add_42, f_X4_add_32, f_X4_add_22, f_X4_add_14, f_X4_add_7, f_X4_add_0, f_X4_add, F_X11_checkedNumber, F_X11_freePlace, Nat.reduceAdd, s6', hx, h1, h2, h3, li_0, li_1, li_2, li_3, li_4, li_5, li_6, li_7, li_8, li_9, li_10, li_11, li_12, li_29, li_30, li_32, li_33, li_35, li_42, li_43, li_45, li_47, li_48, li_50, li_57, li_58, li_59, li_60, li_61, li_63, li_64, li_67, li_68, li_72, li_78, li_79, li_80, li_97, li_99, li_100, li_101, li_102, li_103, li_105, li_108, li_109, li_110, li_111, li_112, li_114, li_115, li_116, li_117, li_118, li_119, li_120, li_121, li_126, li_216, li_232, li_240, li_264, li_300, li_1000, li_1000000, li_2147483647, reduceIte, if_true, if_false, true_and, and_true, false_and, and_false, and_self, not_true_eq_false, not_false_eq_true, true_implies, false_implies, implies_true, forall_const, Bool.false_eq_true, el_l, el_r, Sum.inl.injEq, reduceCtorEq, forall_eq, forall_eq', z2]
        · have hn : no < 8 := by
            rw [n4, eq_n (by omega) (by omega)] at h4
            omega
          have hx : inx (nI no) (nI 8) = true := inx_nI (by omega) hn
          rw [if_neg h4]
          have hf : f_X4_add 1 a b c v = (Sum.inl (nI no), cOff v no a b c) := by
            unfold cOff
            simp (disch := omega) only [f_X4_add_68, f_X4_add_58, f_X4_add_50, f_X4_add_42, f_X4_add_32, f_X4_add_22, f_X4_add_14, f_X4_add_7, f_X4_add_0, f_X4_add, F_X11_checkedNumber, F_X11_freePlace, Nat.reduceAdd, s6', hx, h1, h2, h3, li_0, li_1, li_2, li_3, li_4, li_5, li_6, li_7, li_8, li_9, li_10, li_11, li_12, li_29, li_30, li_32, li_33, li_35, li_42, li_43, li_45, li_47, li_48, li_50, li_57, li_58, li_59, li_60, li_61, li_63, li_64, li_67, li_68, li_72, li_78, li_79, li_80, li_97, li_99, li_100, li_101, li_102, li_103, li_105, li_108, li_109, li_110, li_111, li_112, li_114, li_115, li_116, li_117, li_118, li_119, li_120, li_121, li_126, li_216, li_232, li_240, li_264, li_300, li_1000, li_1000000, li_2147483647, nI_add, nI_mul, cl_n, vi_n, sub_n, reduceIte, if_true, if_false, true_and, and_true, false_and, and_false, and_self, not_true_eq_false, not_false_eq_true, true_implies, false_implies, implies_true, forall_const, Bool.false_eq_true, el_l, el_r, Sum.inl.injEq, reduceCtorEq, forall_eq, forall_eq', vM_rw, vRow_row, vRow_eq, vRow_ne]
          refine ⟨?_, fun h => absurd rfl h, fun _ => ⟨hn, _, hf, ⟨rfl, fun j hj => cOff_ne _ _ _ _ _ (by omega)⟩, ?_⟩⟩
          · simp (disch := omega) only [p_X4_add_68, p_X4_add_58, p_X4_add_50, p_X4_add_42, p_X4_add_32, p_X4_add_22, p_X4_add_14, p_X4_add_7, p_X4_add_0, p_X4_add, F_X11_checkedNumber, P_X11_checkedNumber, F_X11_freePlace, P_X11_freePlace, Nat.reduceAdd, s6', hx, h1, h2, h3, li_0, li_1, li_2, li_3, li_4, li_5, li_6, li_7, li_8, li_9, li_10, li_11, li_12, li_29, li_30, li_32, li_33, li_35, li_42, li_43, li_45, li_47, li_48, li_50, li_57, li_58, li_59, li_60, li_61, li_63, li_64, li_67, li_68, li_72, li_78, li_79, li_80, li_97, li_99, li_100, li_101, li_102, li_103, li_105, li_108, li_109, li_110, li_111, li_112, li_114, li_115, li_116, li_117, li_118, li_119, li_120, li_121, li_126, li_216, li_232, li_240, li_264, li_300, li_1000, li_1000000, li_2147483647, nI_add, nI_mul, cl_n, vi_n, sub_n, reduceIte, if_true, if_false, true_and, and_true, false_and, and_false, and_self, not_true_eq_false, not_false_eq_true, true_implies, false_implies, implies_true, forall_const, Bool.false_eq_true, el_l, el_r, Sum.inl.injEq, reduceCtorEq, forall_eq, forall_eq', vM_rw, vRow_row, vRow_eq, vRow_ne]
          have mne : ∀ i, i < 232 + 4 * no ∨ 232 + 4 * no + 3 ≤ i → ¬ i = 3 → mOff w no a b c i = w i := fun i => mOff_ne w a b c
          have m3 : mOff w no a b c 3 = nI (no + 1) := upd_eq _ _ _
          have mt0 : mOff w no a b c (232 + 4 * no) = a := by unfold mOff; simp (disch := omega) only [upd_is, upd_ne]
          have mt1 : mOff w no a b c (232 + 4 * no + 1) = b := by unfold mOff; simp (disch := omega) only [upd_is, upd_ne]
          have mt2 : mOff w no a b c (232 + 4 * no + 2) = c := by unfold mOff; simp (disch := omega) only [upd_is, upd_ne]
          rw [days_t] at hdd
          rw [inb_t, tI (by omega), tI (by omega)] at h3
          refine ⟨⟨?_, ?_, ?_, m3, n5, n6, n7, by omega⟩, ?_, ?_, ?_, ?_, ?_, ?_, ?_, ?_, ?_, ?_, ?_, ?_, ?_, ?_⟩
          · rw [mne 0 (by omega) (by omega)]; exact n1
          · rw [mne 1 (by omega) (by omega)]; exact n2
          · rw [mne 2 (by omega) (by omega)]; exact n3
          · unfold WFs at hs ⊢
            rw [mne 4 (by omega) (by omega), mne 5 (by omega) (by omega), mne 6 (by omega) (by omega)]
            omega
          · exact WFp_congr n5 (by omega) (by rw [mne 4 (by omega) (by omega)]; exact Int.le_refl _) (fun i _ _ => mne i (by omega) (by omega)) wp
          · exact WFc_congr n6 (by rw [mne 5 (by omega) (by omega)]; exact Int.le_refl _) (by rw [mne 6 (by omega) (by omega)]; exact Int.le_refl _) (fun _ q _ hq _ => ⟨q, hq, mne _ (by omega) (by omega)⟩) (fun i _ _ => mne i (by omega) (by omega)) wc
          · exact WFt_congr n7 (fun i _ _ => mne i (by omega) (by omega)) wt
          · exact WFe_congr (by omega) (fun i _ _ => mne i (by omega) (by omega)) we
          · intro k hk
            by_cases e : k = no
            · subst e
              rw [mt0, mt1, mt2]
              omega
            · rw [mne (232 + 4 * k) (by omega) (by omega), mne (232 + 4 * k + 1) (by omega) (by omega), mne (232 + 4 * k + 2) (by omega) (by omega)]
              exact wo k (by omega)
          · unfold BRs
            rw [mne 4 (by omega) (by omega), mne 5 (by omega) (by omega), mne 6 (by omega) (by omega), mne 7 (by omega) (by omega), cOff_ne (i := 1 + 1) _ _ _ _ _ (by omega), cOff_ne (i := 1 + 10) _ _ _ _ _ (by omega), cOff_ne (i := 1 + 30) _ _ _ _ _ (by omega), cOff_ne (i := 1) _ _ _ _ _ (by omega)]
            have h46 : (cOff v no a b c).1 (1 + 45) 4 = nI (no + 1) := by
              unfold cOff
              simp (disch := omega) only [Nat.reduceAdd, vRow_eq, upd_is]
            exact ⟨s1, s2, s3, s4, s5, h46, s7, s8⟩
          · exact BRp_congr n5 (fun o _ _ => cOff_ne _ _ _ _ _ (by omega)) (fun i _ _ => mne i (by omega) (by omega)) bp
          · exact BRc_congr n6 (fun o _ _ => cOff_ne _ _ _ _ _ (by omega)) (fun i _ _ => mne i (by omega) (by omega)) bc
          · exact BRt_congr n7 (fun o _ _ => cOff_ne _ _ _ _ _ (by omega)) (fun i _ _ => mne i (by omega) (by omega)) bt
          · exact BRe_congr (fun o _ _ => cOff_ne _ _ _ _ _ (by omega)) (fun i _ _ => mne i (by omega) (by omega)) be
          · intro k hk
            by_cases e : k = no
            · subst e
              rw [mt0, mt1, mt2]
              unfold cOff
              simp (disch := omega) only [Nat.reduceAdd, vRow_eq, vRow_ne, upd_is, and_self]
            · rw [mne (232 + 4 * k) (by omega) (by omega), mne (232 + 4 * k + 1) (by omega) (by omega), mne (232 + 4 * k + 2) (by omega) (by omega)]
              unfold cOff
              simp (disch := omega) only [Nat.reduceAdd, vRow_eq, vRow_ne, upd_ne]
              exact bo k (by omega)
          · exact BRk_congr n6 n7 (cOff_ne _ _ _ _ _ (by omega)) (cOff_ne _ _ _ _ _ (by omega)) (fun i _ _ => mne i (by omega) (by omega)) bk
          · exact chars_congr (cOff_ne _ _ _ _ _ (by omega)) bx
      · rw [if_neg h3]
        rw [Bool.not_eq_true] at h3
        refine ⟨?_, fun _ => ⟨?_, Or.inl rfl⟩, fun h => absurd h q1⟩
        · simp only [p_X4_add_68, p_X4_add_58, p_X4_add_50, p_X4_add_42, p_X4_add_32, p_X4_add_22, p_X4_add_14, p_X4_add_7, p_X4_add_0, p_X4_add, F_X11_checkedNumber, P_X11_checkedNumber, h1, h2, h3, li_0, li_1, li_2, li_3, li_4, li_5, li_6, li_7, li_8, li_9, li_10, li_11, li_12, li_29, li_30, li_32, li_33, li_35, li_42, li_43, li_45, li_47, li_48, li_50, li_57, li_58, li_59, li_60, li_61, li_63, li_64, li_67, li_68, li_72, li_78, li_79, li_80, li_97, li_99, li_100, li_101, li_102, li_103, li_105, li_108, li_109, li_110, li_111, li_112, li_114, li_115, li_116, li_117, li_118, li_119, li_120, li_121, li_126, li_216, li_232, li_240, li_264, li_300, li_1000, li_1000000, li_2147483647, reduceIte, if_true, if_false, true_and, and_true, false_and, and_false, and_self, not_true_eq_false, not_false_eq_true, true_implies, false_implies, implies_true, forall_const, Bool.false_eq_true, el_l, el_r, Sum.inl.injEq, reduceCtorEq, forall_eq, forall_eq']
        · simp only [f_X4_add_68, f_X4_add_58, f_X4_add_50, f_X4_add_42, f_X4_add_32, f_X4_add_22, f_X4_add_14, f_X4_add_7, f_X4_add_0, f_X4_add, F_X11_checkedNumber, h1, h2, h3, li_0, li_1, li_2, li_3, li_4, li_5, li_6, li_7, li_8, li_9, li_10, li_11, li_12, li_29, li_30, li_32, li_33, li_35, li_42, li_43, li_45, li_47, li_48, li_50, li_57, li_58, li_59, li_60, li_61, li_63, li_64, li_67, li_68, li_72, li_78, li_79, li_80, li_97, li_99, li_100, li_101, li_102, li_103, li_105, li_108, li_109, li_110, li_111, li_112, li_114, li_115, li_116, li_117, li_118, li_119, li_120, li_121, li_126, li_216, li_232, li_240, li_264, li_300, li_1000, li_1000000, li_2147483647, reduceIte, if_true, if_false, true_and, and_true, false_and, and_false, and_self, not_true_eq_false, not_false_eq_true, true_implies, false_implies, implies_true, forall_const, Bool.false_eq_true, el_l, el_r, Sum.inl.injEq, reduceCtorEq, forall_eq, forall_eq', z1]
    · have hdd : ¬ days a b = true := fun h => h2 (hd.mp h).2
      rw [if_neg hdd]
      rw [Bool.not_eq_true] at h2
      refine ⟨?_, fun _ => ⟨?_, Or.inl rfl⟩, fun h => absurd h q1⟩
      · simp only [p_X4_add_68, p_X4_add_58, p_X4_add_50, p_X4_add_42, p_X4_add_32, p_X4_add_22, p_X4_add_14, p_X4_add_7, p_X4_add_0, p_X4_add, F_X11_checkedNumber, P_X11_checkedNumber, h1, h2, li_0, li_1, li_2, li_3, li_4, li_5, li_6, li_7, li_8, li_9, li_10, li_11, li_12, li_29, li_30, li_32, li_33, li_35, li_42, li_43, li_45, li_47, li_48, li_50, li_57, li_58, li_59, li_60, li_61, li_63, li_64, li_67, li_68, li_72, li_78, li_79, li_80, li_97, li_99, li_100, li_101, li_102, li_103, li_105, li_108, li_109, li_110, li_111, li_112, li_114, li_115, li_116, li_117, li_118, li_119, li_120, li_121, li_126, li_216, li_232, li_240, li_264, li_300, li_1000, li_1000000, li_2147483647, reduceIte, if_true, if_false, true_and, and_true, false_and, and_false, and_self, not_true_eq_false, not_false_eq_true, true_implies, false_implies, implies_true, forall_const, Bool.false_eq_true, el_l, el_r, Sum.inl.injEq, reduceCtorEq, forall_eq, forall_eq']
      · simp only [f_X4_add_68, f_X4_add_58, f_X4_add_50, f_X4_add_42, f_X4_add_32, f_X4_add_22, f_X4_add_14, f_X4_add_7, f_X4_add_0, f_X4_add, F_X11_checkedNumber, h1, h2, li_0, li_1, li_2, li_3, li_4, li_5, li_6, li_7, li_8, li_9, li_10, li_11, li_12, li_29, li_30, li_32, li_33, li_35, li_42, li_43, li_45, li_47, li_48, li_50, li_57, li_58, li_59, li_60, li_61, li_63, li_64, li_67, li_68, li_72, li_78, li_79, li_80, li_97, li_99, li_100, li_101, li_102, li_103, li_105, li_108, li_109, li_110, li_111, li_112, li_114, li_115, li_116, li_117, li_118, li_119, li_120, li_121, li_126, li_216, li_232, li_240, li_264, li_300, li_1000, li_1000000, li_2147483647, reduceIte, if_true, if_false, true_and, and_true, false_and, and_false, and_self, not_true_eq_false, not_false_eq_true, true_implies, false_implies, implies_true, forall_const, Bool.false_eq_true, el_l, el_r, Sum.inl.injEq, reduceCtorEq, forall_eq, forall_eq', z1]
  · have hdd : ¬ days a b = true := fun h => h1 (hd.mp h).1
    rw [if_neg hdd]
    rw [Bool.not_eq_true] at h1
    refine ⟨?_, fun _ => ⟨?_, Or.inl rfl⟩, fun h => absurd h q1⟩
    · simp only [p_X4_add_68, p_X4_add_58, p_X4_add_50, p_X4_add_42, p_X4_add_32, p_X4_add_22, p_X4_add_14, p_X4_add_7, p_X4_add_0, p_X4_add, F_X11_checkedNumber, P_X11_checkedNumber, h1, li_0, li_1, li_2, li_3, li_4, li_5, li_6, li_7, li_8, li_9, li_10, li_11, li_12, li_29, li_30, li_32, li_33, li_35, li_42, li_43, li_45, li_47, li_48, li_50, li_57, li_58, li_59, li_60, li_61, li_63, li_64, li_67, li_68, li_72, li_78, li_79, li_80, li_97, li_99, li_100, li_101, li_102, li_103, li_105, li_108, li_109, li_110, li_111, li_112, li_114, li_115, li_116, li_117, li_118, li_119, li_120, li_121, li_126, li_216, li_232, li_240, li_264, li_300, li_1000, li_1000000, li_2147483647, reduceIte, if_true, if_false, true_and, and_true, false_and, and_false, and_self, not_true_eq_false, not_false_eq_true, true_implies, false_implies, implies_true, forall_const, Bool.false_eq_true, el_l, el_r, Sum.inl.injEq, reduceCtorEq, forall_eq, forall_eq']
    · simp only [f_X4_add_68, f_X4_add_58, f_X4_add_50, f_X4_add_42, f_X4_add_32, f_X4_add_22, f_X4_add_14, f_X4_add_7, f_X4_add_0, f_X4_add, F_X11_checkedNumber, h1, li_0, li_1, li_2, li_3, li_4, li_5, li_6, li_7, li_8, li_9, li_10, li_11, li_12, li_29, li_30, li_32, li_33, li_35, li_42, li_43, li_45, li_47, li_48, li_50, li_57, li_58, li_59, li_60, li_61, li_63, li_64, li_67, li_68, li_72, li_78, li_79, li_80, li_97, li_99, li_100, li_101, li_102, li_103, li_105, li_108, li_109, li_110, li_111, li_112, li_114, li_115, li_116, li_117, li_118, li_119, li_120, li_121, li_126, li_216, li_232, li_240, li_264, li_300, li_1000, li_1000000, li_2147483647, reduceIte, if_true, if_false, true_and, and_true, false_and, and_false, and_self, not_true_eq_false, not_false_eq_true, true_implies, false_implies, implies_true, forall_const, Bool.false_eq_true, el_l, el_r, Sum.inl.injEq, reduceCtorEq, forall_eq, forall_eq', z1]
def cDro (v : gV) (n k : Nat) : gV := vRow (vRow (vRow (vRow v 47 (gap (v.1 47) k 7)) 48 (gap (v.1 48) k 7)) 49 (gap (v.1 49) k 7)) 46 (upd (v.1 46) 4 (nI (n - 1)))
theorem cDro_ne (v : gV) {n k i : Nat} (h : i < 46 ∨ 49 < i) : (cDro v n k).1 i = v.1 i := by
  unfold cDro
  simp (disch := omega) only [vRow_ne]
theorem mDro_p (w : Nat → Int32) {n k i o : Nat} (hi : i + 1 < n) (ho : o < 4) : mDro w n k (232 + 4 * i + o) = if i < k then w (232 + 4 * i + o) else w (232 + 4 * (i + 1) + o) := by
  unfold mDro rmv
  rw [fil_out (by omega)]
  by_cases h : i < k
  · rw [shf_out (by omega), upd_ne (by omega), if_pos h]
  · rw [shf_in (by omega), upd_ne (by omega), if_neg h, show 232 + 4 * i + o + 4 = 232 + 4 * (i + 1) + o by omega]
theorem mDro_ne (w : Nat → Int32) {n k i : Nat} (h : i < 232 ∨ 264 ≤ i) (h1 : ¬ i = 3) (hn : n ≤ 8) (h0 : 0 < n) : mDro w n k i = w i := by
  unfold mDro rmv
  rw [fil_out (by omega), shf_out (by omega), upd_ne h1]
theorem mDro_3 (w : Nat → Int32) {n k : Nat} : mDro w n k 3 = nI (n - 1) := by
  unfold mDro rmv
  rw [fil_out (by omega), shf_out (by omega), upd_eq]
theorem K_removeOffer (x : Int32) (v : gV) {w : Nat → Int32} {B np nc nt no : Nat} (h : BR B v 1 w np nc nt no) : p_X4_remove 1 x v ∧ (inx x (nI no) = false → f_X4_remove 1 x v = (Sum.inr "java/lang/IndexOutOfBoundsException", v)) ∧ (inx x (nI no) = true → ∃ k v', x = nI k ∧ k < no ∧ f_X4_remove 1 x v = (Sum.inl (w (232 + 4 * k + 2)), v') ∧ Fr v v' ∧ BR (B + 1) v' 1 (mDro w no k) np nc nt (no - 1)) := by
  obtain ⟨hw, hs, wp, wc, wt, we, wo, bs, bp, bc, bt, be, bo, bk, bx⟩ := h
  obtain ⟨n1, n2, n3, n4, n5, n6, n7, n8⟩ := id hw
  obtain ⟨s1, s2, s3, s4, s5, s6, s7, s8⟩ := id bs
  have s6' : v.1 46 4 = nI no := s6
  cases hx : inx x (nI no) with
  | false =>
    refine ⟨?_, fun _ => ?_, fun h => (by cases h)⟩
    · simp only [p_X4_remove_48, p_X4_remove_38, p_X4_remove_30, p_X4_remove_22, p_X4_remove_12, p_X4_remove_0, p_X4_remove, P_X11_checkedIndex, F_X11_checkedIndex, Nat.reduceAdd, s6', hx, reduceIte, if_true, if_false, true_and, and_true, false_and, and_false, and_self, not_true_eq_false, not_false_eq_true, true_implies, false_implies, implies_true, forall_const, Bool.false_eq_true, el_l, el_r, Sum.inl.injEq, reduceCtorEq, forall_eq, forall_eq']
    · simp only [f_X4_remove_48, f_X4_remove_38, f_X4_remove_30, f_X4_remove_22, f_X4_remove_12, f_X4_remove_0, f_X4_remove, F_X11_checkedIndex, Nat.reduceAdd, s6', hx, reduceIte, if_true, if_false, true_and, and_true, false_and, and_false, and_self, not_true_eq_false, not_false_eq_true, true_implies, false_implies, implies_true, forall_const, Bool.false_eq_true, el_l, el_r, Sum.inl.injEq, reduceCtorEq, forall_eq, forall_eq']
  | true =>
    obtain ⟨k, hk, rfl⟩ := inx_n (by omega) hx
    have hk8 : k < 8 := by omega
    have b3 : v.1 49 k = w (232 + 4 * k + 2) := (bo k hk).2.2
    have hst : f_X11_closeGap 49 8 (nI k) (f_X11_closeGap 48 8 (nI k) (f_X11_closeGap 47 8 (nI k) v)) = vRow (vRow (vRow v 47 (gap (v.1 47) k 7)) 48 (gap (v.1 48) k 7)) 49 (gap (v.1 49) k 7) := by
      rw [F_cgS (v := v) (j := 47) hk8 rfl]
      rw [F_cgS (v := v) (j := 48) hk8 (by simp (disch := omega) only [vRow_ne])]
      rw [F_cgS (v := v) (j := 49) hk8 (by simp (disch := omega) only [vRow_ne])]
    refine ⟨?_, fun h => (by cases h), fun _ => ⟨k, cDro v no k, rfl, hk, ?_, ⟨rfl, fun j hj => cDro_ne _ (by omega)⟩, ?_⟩⟩
    · simp (disch := omega) only [p_X4_remove_48, p_X4_remove_38, p_X4_remove_30, p_X4_remove_22, p_X4_remove_12, p_X4_remove_0, p_X4_remove, P_X11_checkedIndex, F_X11_checkedIndex, Nat.reduceAdd, s6', hx, P_cg8, vi_n, reduceIte, if_true, if_false, true_and, and_true, false_and, and_false, and_self, not_true_eq_false, not_false_eq_true, true_implies, false_implies, implies_true, forall_const, Bool.false_eq_true, el_l, el_r, Sum.inl.injEq, reduceCtorEq, forall_eq, forall_eq']
    · unfold cDro
      simp (disch := omega) only [f_X4_remove_48, f_X4_remove_38, f_X4_remove_30, f_X4_remove_22, f_X4_remove_12, f_X4_remove_0, f_X4_remove, F_X11_checkedIndex, Nat.reduceAdd, s6', hx, hst, b3, li_0, li_1, li_2, li_3, li_4, li_5, li_6, li_7, li_8, li_9, li_10, li_11, li_12, li_29, li_30, li_32, li_33, li_35, li_42, li_43, li_45, li_47, li_48, li_50, li_57, li_58, li_59, li_60, li_61, li_63, li_64, li_67, li_68, li_72, li_78, li_79, li_80, li_97, li_99, li_100, li_101, li_102, li_103, li_105, li_108, li_109, li_110, li_111, li_112, li_114, li_115, li_116, li_117, li_118, li_119, li_120, li_121, li_126, li_216, li_232, li_240, li_264, li_300, li_1000, li_1000000, li_2147483647, nI_add, nI_mul, cl_n, vi_n, sub_n, reduceIte, if_true, if_false, true_and, and_true, false_and, and_false, and_self, not_true_eq_false, not_false_eq_true, true_implies, false_implies, implies_true, forall_const, Bool.false_eq_true, el_l, el_r, Sum.inl.injEq, reduceCtorEq, forall_eq, forall_eq', vM_rw, vRow_ne]
    have mne : ∀ i, i < 232 ∨ 264 ≤ i → ¬ i = 3 → mDro w no k i = w i := fun i h1 h2 => mDro_ne w h1 h2 n8 (by omega)
    have mp : ∀ i o, i + 1 < no → o < 4 → mDro w no k (232 + 4 * i + o) = if i < k then w (232 + 4 * i + o) else w (232 + 4 * (i + 1) + o) := fun i o => mDro_p w
    have mp0 : ∀ i, i + 1 < no → mDro w no k (232 + 4 * i) = if i < k then w (232 + 4 * i) else w (232 + 4 * (i + 1)) := fun i h1 => mp i 0 h1 (by omega)
    refine ⟨⟨?_, ?_, ?_, mDro_3 w, n5, n6, n7, by omega⟩, ?_, ?_, ?_, ?_, ?_, ?_, ?_, ?_, ?_, ?_, ?_, ?_, ?_, ?_⟩
    · rw [mne 0 (by omega) (by omega)]; exact n1
    · rw [mne 1 (by omega) (by omega)]; exact n2
    · rw [mne 2 (by omega) (by omega)]; exact n3
    · unfold WFs at hs ⊢
      rw [mne 4 (by omega) (by omega), mne 5 (by omega) (by omega), mne 6 (by omega) (by omega)]
      omega
    · exact WFp_congr n5 (by omega) (by rw [mne 4 (by omega) (by omega)]; exact Int.le_refl _) (fun i _ _ => mne i (by omega) (by omega)) wp
    · exact WFc_congr n6 (by rw [mne 5 (by omega) (by omega)]; exact Int.le_refl _) (by rw [mne 6 (by omega) (by omega)]; exact Int.le_refl _) (fun _ q _ hq _ => ⟨q, hq, mne _ (by omega) (by omega)⟩) (fun i _ _ => mne i (by omega) (by omega)) wc
    · exact WFt_congr n7 (fun i _ _ => mne i (by omega) (by omega)) wt
    · exact WFe_congr (by omega) (fun i _ _ => mne i (by omega) (by omega)) we
    · intro i hi
      rw [mp0 i (by omega), mp i 1 (by omega) (by omega), mp i 2 (by omega) (by omega)]
      by_cases h1 : i < k
      · simp only [if_pos h1]; exact wo i (by omega)
      · simp only [if_neg h1]; exact wo (i + 1) (by omega)
    · unfold BRs
      rw [mne 4 (by omega) (by omega), mne 5 (by omega) (by omega), mne 6 (by omega) (by omega), mne 7 (by omega) (by omega), cDro_ne (i := 1 + 1) _ (by omega), cDro_ne (i := 1 + 10) _ (by omega), cDro_ne (i := 1 + 30) _ (by omega), cDro_ne (i := 1) _ (by omega)]
      have h46 : (cDro v no k).1 (1 + 45) 4 = nI (no - 1) := by
        unfold cDro
        simp (disch := omega) only [Nat.reduceAdd, vRow_eq, upd_is]
      exact ⟨s1, s2, s3, s4, s5, h46, s7, s8⟩
    · exact BRp_congr n5 (fun o _ _ => cDro_ne _ (by omega)) (fun i _ _ => mne i (by omega) (by omega)) bp
    · exact BRc_congr n6 (fun o _ _ => cDro_ne _ (by omega)) (fun i _ _ => mne i (by omega) (by omega)) bc
    · exact BRt_congr n7 (fun o _ _ => cDro_ne _ (by omega)) (fun i _ _ => mne i (by omega) (by omega)) bt
    · exact BRe_congr (fun o _ _ => cDro_ne _ (by omega)) (fun i _ _ => mne i (by omega) (by omega)) be
    · intro i hi
      have hg : ∀ j, j = 47 ∨ j = 48 ∨ j = 49 → (cDro v no k).1 j i = if i < k then v.1 j i else v.1 j (i + 1) := fun j hj => by
        rw [← gap_i (r := v.1 j) (n := 7) (by omega)]
        unfold cDro
        rcases hj with rfl | rfl | rfl <;> simp (disch := omega) only [vRow_eq, vRow_ne]
      rw [hg (1 + 46) (by omega), hg (1 + 47) (by omega), hg (1 + 48) (by omega), mp0 i (by omega), mp i 1 (by omega) (by omega), mp i 2 (by omega) (by omega)]
      by_cases h1 : i < k
      · simp only [if_pos h1]; exact bo i (by omega)
      · simp only [if_neg h1]; exact bo (i + 1) (by omega)
    · exact BRk_congr n6 n7 (cDro_ne _ (by omega)) (cDro_ne _ (by omega)) (fun i _ _ => mne i (by omega) (by omega)) bk
    · exact chars_congr (cDro_ne _ (by omega)) bx
theorem K_advance (d : Int32) (v : gV) {w : Nat → Int32} {B np nc nt no : Nat} (hB : B < 40000) (h : BR B v 1 w np nc nt no) : p_X1_advance 1 d v ∧ (inb d (nI 1) (nI 60) = false → f_X1_advance 1 d v = (Sum.inr "java/lang/IllegalArgumentException", v)) ∧ (inb d (nI 1) (nI 60) = true → ∃ v', f_X1_advance 1 d v = (Sum.inl (w 6 + d), v') ∧ Fr v v' ∧ BR (B + 1) v' 1 (mPas w d) np nc nt no) := by
  obtain ⟨hw, hs, wp, wc, wt, we, wo, bs, bp, bc, bt, be, bo, bk, bx⟩ := h
  obtain ⟨n1, n2, n3, n4, n5, n6, n7, n8⟩ := id hw
  obtain ⟨s1, s2, s3, s4, s5, s6, s7, s8⟩ := id bs
  have s7' : v.1 1 5 = w 6 := s7
  cases hx : inb d (nI 1) (nI 60) with
  | false =>
    refine ⟨?_, fun _ => ?_, fun h => (by cases h)⟩
    · simp only [p_X1_advance_16, p_X1_advance_12, p_X1_advance_0, p_X1_advance, P_X11_checkedNumber, F_X11_checkedNumber, hx, li_0, li_1, li_2, li_3, li_4, li_5, li_6, li_7, li_8, li_9, li_10, li_11, li_12, li_29, li_30, li_32, li_33, li_35, li_42, li_43, li_45, li_47, li_48, li_50, li_57, li_58, li_59, li_60, li_61, li_63, li_64, li_67, li_68, li_72, li_78, li_79, li_80, li_97, li_99, li_100, li_101, li_102, li_103, li_105, li_108, li_109, li_110, li_111, li_112, li_114, li_115, li_116, li_117, li_118, li_119, li_120, li_121, li_126, li_216, li_232, li_240, li_264, li_300, li_1000, li_1000000, li_2147483647, reduceIte, if_true, if_false, true_and, and_true, false_and, and_false, and_self, not_true_eq_false, not_false_eq_true, true_implies, false_implies, implies_true, forall_const, Bool.false_eq_true, el_l, el_r, Sum.inl.injEq, reduceCtorEq, forall_eq, forall_eq']
    · simp only [f_X1_advance_16, f_X1_advance_12, f_X1_advance_0, f_X1_advance, F_X11_checkedNumber, hx, li_0, li_1, li_2, li_3, li_4, li_5, li_6, li_7, li_8, li_9, li_10, li_11, li_12, li_29, li_30, li_32, li_33, li_35, li_42, li_43, li_45, li_47, li_48, li_50, li_57, li_58, li_59, li_60, li_61, li_63, li_64, li_67, li_68, li_72, li_78, li_79, li_80, li_97, li_99, li_100, li_101, li_102, li_103, li_105, li_108, li_109, li_110, li_111, li_112, li_114, li_115, li_116, li_117, li_118, li_119, li_120, li_121, li_126, li_216, li_232, li_240, li_264, li_300, li_1000, li_1000000, li_2147483647, reduceIte, if_true, if_false, true_and, and_true, false_and, and_false, and_self, not_true_eq_false, not_false_eq_true, true_implies, false_implies, implies_true, forall_const, Bool.false_eq_true, el_l, el_r, Sum.inl.injEq, reduceCtorEq, forall_eq, forall_eq']
  | true =>
    have hf : f_X1_advance 1 d v = (Sum.inl (w 6 + d), vRow v 1 (upd (v.1 1) 5 (w 6 + d))) := by
      simp (disch := omega) only [f_X1_advance_16, f_X1_advance_12, f_X1_advance_0, f_X1_advance, F_X11_checkedNumber, hx, s7', li_0, li_1, li_2, li_3, li_4, li_5, li_6, li_7, li_8, li_9, li_10, li_11, li_12, li_29, li_30, li_32, li_33, li_35, li_42, li_43, li_45, li_47, li_48, li_50, li_57, li_58, li_59, li_60, li_61, li_63, li_64, li_67, li_68, li_72, li_78, li_79, li_80, li_97, li_99, li_100, li_101, li_102, li_103, li_105, li_108, li_109, li_110, li_111, li_112, li_114, li_115, li_116, li_117, li_118, li_119, li_120, li_121, li_126, li_216, li_232, li_240, li_264, li_300, li_1000, li_1000000, li_2147483647, reduceIte, if_true, if_false, true_and, and_true, false_and, and_false, and_self, not_true_eq_false, not_false_eq_true, true_implies, false_implies, implies_true, forall_const, Bool.false_eq_true, el_l, el_r, Sum.inl.injEq, reduceCtorEq, forall_eq, forall_eq', vM_rw, vRow_eq, upd_is]
    refine ⟨?_, fun h => (by cases h), fun _ => ⟨_, hf, ⟨rfl, fun j hj => vRow_ne _ _ (by omega)⟩, ?_⟩⟩
    · simp only [p_X1_advance_16, p_X1_advance_12, p_X1_advance_0, p_X1_advance, P_X11_checkedNumber, F_X11_checkedNumber, hx, li_0, li_1, li_2, li_3, li_4, li_5, li_6, li_7, li_8, li_9, li_10, li_11, li_12, li_29, li_30, li_32, li_33, li_35, li_42, li_43, li_45, li_47, li_48, li_50, li_57, li_58, li_59, li_60, li_61, li_63, li_64, li_67, li_68, li_72, li_78, li_79, li_80, li_97, li_99, li_100, li_101, li_102, li_103, li_105, li_108, li_109, li_110, li_111, li_112, li_114, li_115, li_116, li_117, li_118, li_119, li_120, li_121, li_126, li_216, li_232, li_240, li_264, li_300, li_1000, li_1000000, li_2147483647, reduceIte, if_true, if_false, true_and, and_true, false_and, and_false, and_self, not_true_eq_false, not_false_eq_true, true_implies, false_implies, implies_true, forall_const, Bool.false_eq_true, el_l, el_r, Sum.inl.injEq, reduceCtorEq, forall_eq, forall_eq']
    rw [inb_t, tI (by omega), tI (by omega)] at hx
    obtain ⟨f1, f2, f3, f4, f5, f6⟩ := id hs
    have e6 : (w 6 + d).toInt = (w 6).toInt + d.toInt := ti_add (by omega) (by omega)
    have mne : ∀ i, ¬ i = 6 → mPas w d i = w i := fun i h => upd_ne h
    have m6 : mPas w d 6 = w 6 + d := upd_eq _ _ _
    refine ⟨⟨?_, ?_, ?_, ?_, n5, n6, n7, n8⟩, ?_, ?_, ?_, ?_, ?_, ?_, ?_, ?_, ?_, ?_, ?_, ?_, ⟨?_, ?_⟩, ?_⟩
    · rw [mne 0 (by omega)]; exact n1
    · rw [mne 1 (by omega)]; exact n2
    · rw [mne 2 (by omega)]; exact n3
    · rw [mne 3 (by omega)]; exact n4
    · unfold WFs
      rw [mne 4 (by omega), mne 5 (by omega), m6, e6]
      omega
    · exact WFp_congr n5 (by omega) (by rw [mne 4 (by omega)]; exact Int.le_refl _) (fun i _ _ => mne i (by omega)) wp
    · exact WFc_congr n6 (by rw [mne 5 (by omega)]; exact Int.le_refl _) (by rw [m6, e6]; omega) (fun _ q _ hq _ => ⟨q, hq, mne _ (by omega)⟩) (fun i _ _ => mne i (by omega)) wc
    · exact WFt_congr n7 (fun i _ _ => mne i (by omega)) wt
    · exact WFe_congr (by omega) (fun i _ _ => mne i (by omega)) we
    · exact WFo_congr n8 (fun i _ _ => mne i (by omega)) wo
    · unfold BRs
      rw [mne 4 (by omega), mne 5 (by omega), m6, mne 7 (by omega), vRow_ne (i := 1 + 1) _ _ (by omega), vRow_ne (i := 1 + 10) _ _ (by omega), vRow_ne (i := 1 + 30) _ _ (by omega), vRow_ne (i := 1 + 45) _ _ (by omega), vRow_eq]
      exact ⟨s1, s2, s3, s4, s5, s6, upd_eq _ _ _, by rw [upd_ne (by omega)]; exact s8⟩
    · exact BRp_congr n5 (fun o _ _ => vRow_ne _ _ (by omega)) (fun i _ _ => mne i (by omega)) bp
    · exact BRc_congr n6 (fun o _ _ => vRow_ne _ _ (by omega)) (fun i _ _ => mne i (by omega)) bc
    · exact BRt_congr n7 (fun o _ _ => vRow_ne _ _ (by omega)) (fun i _ _ => mne i (by omega)) bt
    · exact BRe_congr (fun o _ _ => vRow_ne _ _ (by omega)) (fun i _ _ => mne i (by omega)) be
    · exact BRo_congr n8 (fun o _ _ => vRow_ne _ _ (by omega)) (fun i _ _ => mne i (by omega)) bo
    · rw [vRow_eq]
      simp (disch := omega) only [upd_ne]
      exact bk.1
    · intro k hk
      rw [vRow_ne _ _ (by omega), mne _ (by omega), sI_congr (g := fun i => prt w i k) fun i hi => by unfold prt; rw [mne _ (by omega)]]
      exact bk.2 k hk
    · exact chars_congr (vRow_ne _ _ (by omega)) bx
