/-! the class' claims: removed -/
theorem P_cg12 (v : gV) (j : Nat) {k : Nat} (hk : k < 12) : p_X11_closeGap j 12 (nI k) v := P_X11_closeGap j 12 v hk (by omega)
theorem F_cg12 {u v : gV} {j k : Nat} (hk : k < 12) (h : u.1 j = v.1 j) : f_X11_closeGap j 12 (nI k) u = vRow u j (gap (v.1 j) k 11) := by
  rw [F_X11_closeGap j 12 u hk (by omega), h]
theorem T_removeId_C (v : gV) {n k : Nat} (h : v.1 11 1 = nI n) (hk : k < n) (hn : n ≤ 12) : p_X6_removeId_C 1 (nI k) v ∧ f_X6_removeId_C 1 (nI k) v = vRow (vRow v 12 (gap (v.1 12) k 11)) 11 (upd (v.1 11) 1 (nI (n - 1))) := by
  constructor
  · simp (disch := omega) only [p_X6_removeId_C_18, p_X6_removeId_C_8, p_X6_removeId_C_0, p_X6_removeId_C, P_cg12, and_self]
  · have e : f_X6_removeId_C 1 (nI k) v = f_X6_removeId_C_8 1 (f_X11_closeGap 12 12 (nI k) v) := rfl
    rw [e, F_cg12 (v := v) (by omega) rfl]
    simp (disch := omega) only [f_X6_removeId_C_8, f_X6_removeId_C_18, Nat.reduceAdd, li_0, li_1, li_2, li_3, li_4, li_5, li_6, li_7, li_8, li_9, li_10, li_11, li_12, li_29, li_30, li_32, li_33, li_35, li_42, li_43, li_45, li_47, li_48, li_50, li_57, li_58, li_59, li_60, li_61, li_63, li_64, li_67, li_68, li_72, li_78, li_79, li_80, li_97, li_99, li_100, li_101, li_102, li_103, li_105, li_108, li_109, li_110, li_111, li_112, li_114, li_115, li_116, li_117, li_118, li_119, li_120, li_121, li_126, li_216, li_232, li_240, li_264, li_300, li_1000, li_1000000, li_2147483647, nI_add, nI_mul, cl_n, vi_n, sub_n, vM_rw, vRow_eq, vRow_ne, h]
/-- the loop over causes and parts, from place i on -/
def rmC (v u : gV) (i : Nat) : gV := (fun j => if j = 14 then gap (v.1 14) i 11 else if 19 + i ≤ j ∧ j < 30 then cpy (v.1 (j + 1)) (v.1 j) 4 else u.1 j, u.2)
theorem L_remove_C : ∀ (m i fuel : Nat) (v : gV), i + m = 11 → m < fuel → chars v 1 → p_X2_remove_39 1 fuel (nI i) v ∧ f_X2_remove_39 1 fuel (nI i) v = rmC v v i := by
  intro m
  induction m with
  | zero =>
    intro i fuel v hk hf hx
    obtain ⟨f, rfl⟩ := fuel_s hf
    have hi : i = 11 := by omega
    subst hi
    have hc : (11 : Int32) ≤ nI 11 := nI_le (a := 11) (by omega) (by omega)
    have e : rmC v v 11 = v := by
      unfold rmC
      apply Prod.ext
      · funext j
        show (if j = 14 then gap (v.1 14) 11 11 else if 19 + 11 ≤ j ∧ j < 30 then cpy (v.1 (j + 1)) (v.1 j) 4 else v.1 j) = v.1 j
        by_cases h1 : j = 14
        · subst h1
          rw [if_pos rfl]
          funext o
          exact if_neg (by omega)
        · rw [if_neg h1, if_neg (by omega)]
      · rfl
    rw [p_X2_remove_39, f_X2_remove_39, if_pos hc, e]
    exact ⟨⟨fun _ => trivial, fun h => absurd hc h⟩, rfl⟩
  | succ m ih =>
    intro i fuel v hk hf hx
    obtain ⟨f, rfl⟩ := fuel_s hf
    have hc : ¬ (11 : Int32) ≤ nI i := nI_ge (b := 11) (by omega) (by omega)
    have hu : f_X11_copyRow (20 + i) 4 (19 + i) 4 (vM v 14 i (v.1 14 (i + 1))) = vRow (vRow v 14 (upd (v.1 14) i (v.1 14 (i + 1)))) (19 + i) (cpy (v.1 (20 + i)) (v.1 (19 + i)) 4) := by
      rw [F_X11_copyRow _ _ _ _ (by omega), vM_rw, vRow_ne _ _ (by omega), vRow_ne _ _ (by omega)]
    have hx2 : chars (vRow (vRow v 14 (upd (v.1 14) i (v.1 14 (i + 1)))) (19 + i) (cpy (v.1 (20 + i)) (v.1 (19 + i)) 4)) 1 := by
      intro k hk
      show vp_nar .char ((vRow _ _ _).1 14 k) = (vRow _ _ _).1 14 k
      rw [vRow_ne _ _ (by omega), vRow_eq]
      by_cases h1 : k = i
      · subst h1
        rw [upd_eq]
        exact hx (k + 1) (by omega)
      · rw [upd_ne h1]
        exact hx k hk
    have hi := ih (i + 1) f _ (by omega) (by omega) hx2
    have e : rmC (vRow (vRow v 14 (upd (v.1 14) i (v.1 14 (i + 1)))) (19 + i) (cpy (v.1 (20 + i)) (v.1 (19 + i)) 4)) (vRow (vRow v 14 (upd (v.1 14) i (v.1 14 (i + 1)))) (19 + i) (cpy (v.1 (20 + i)) (v.1 (19 + i)) 4)) (i + 1) = rmC v v i := by
      unfold rmC
      apply Prod.ext
      · funext j
        show (if j = 14 then gap ((vRow (vRow v 14 _) (19 + i) _).1 14) (i + 1) 11 else if 19 + (i + 1) ≤ j ∧ j < 30 then cpy ((vRow (vRow v 14 _) (19 + i) _).1 (j + 1)) ((vRow (vRow v 14 _) (19 + i) _).1 j) 4 else (vRow (vRow v 14 _) (19 + i) _).1 j) = if j = 14 then gap (v.1 14) i 11 else if 19 + i ≤ j ∧ j < 30 then cpy (v.1 (j + 1)) (v.1 j) 4 else v.1 j
        by_cases h1 : j = 14
        · rw [if_pos h1, if_pos h1, vRow_ne _ _ (by omega), vRow_eq]
          funext o
          unfold gap
          rw [upd_at, upd_at]
          by_cases h2 : o = i
          · rw [if_neg (show ¬ (i + 1 ≤ o ∧ o < 11) by omega), if_pos h2, if_pos (show i ≤ o ∧ o < 11 by omega), h2]
          · by_cases h3 : i + 1 ≤ o ∧ o < 11
            · rw [if_pos h3, if_neg (show ¬ o + 1 = i by omega), if_pos (show i ≤ o ∧ o < 11 by omega)]
            · rw [if_neg h3, if_neg h2, if_neg (show ¬ (i ≤ o ∧ o < 11) by omega)]
        · rw [if_neg h1, if_neg h1]
          by_cases h2 : j = 19 + i
          · subst h2
            rw [if_neg (show ¬ (19 + (i + 1) ≤ 19 + i ∧ 19 + i < 30) by omega), if_pos (show 19 + i ≤ 19 + i ∧ 19 + i < 30 by omega), vRow_eq, show 19 + i + 1 = 20 + i by omega]
          · by_cases h3 : 19 + (i + 1) ≤ j ∧ j < 30
            · rw [if_pos h3, if_pos (show 19 + i ≤ j ∧ j < 30 by omega), vRow_ne (i := j + 1) _ _ (by omega), vRow_ne (i := j + 1) _ _ (by omega), vRow_ne (i := j) _ _ (by omega), vRow_ne (i := j) _ _ (by omega)]
            · rw [if_neg h3, if_neg (show ¬ (19 + i ≤ j ∧ j < 30) by omega), vRow_ne _ _ h2, vRow_ne _ _ h1]
      · rfl
    rw [e] at hi
    have h11 : ¬ nI 11 ≤ nI i := hc
    have hpc := P_X11_copyRow (20 + i) (19 + i) 4 (vM v 14 i (v.1 14 (i + 1))) (by omega)
    have e1 : (nI (i + 1)).toNatClampNeg = i + 1 := cl_n (by omega)
    have e2 : 1 + 17 + 1 + (i + 1) = 20 + i := by omega
    have e3 : 1 + 17 + 1 + i = 19 + i := by omega
    have hv1 : vp_in (nI (i + 1)) 12 := vi_n (by omega) (by omega)
    have hv2 : vp_in (nI i) 12 := vi_n (by omega) (by omega)
    have hnr : vp_nar .char (v.1 14 (i + 1)) = v.1 14 (i + 1) := hx (i + 1) (by omega)
    have e13 : (1 : Nat) + 13 = 14 := rfl
    rw [p_X2_remove_39, f_X2_remove_39, if_neg hc]
    simp only [f_X2_remove_59, p_X2_remove_59, f_X2_remove_76, p_X2_remove_76, li_1, li_11, e1, cl_n (show i < 2147483648 by omega), e2, e3, e13, hu, hpc, hv1, hv2, hnr, h11, nI_add, not_false_eq_true, false_implies, true_implies, true_and]
    exact hi
def cRmC (v : gV) (n k : Nat) : gV := rmC v (vRow (vRow (vRow (vRow (vRow (vRow v 12 (gap (v.1 12) k 11)) 11 (upd (v.1 11) 1 (nI (n - 1)))) 13 (gap (v.1 13) k 11)) 15 (gap (v.1 15) k 11)) 16 (gap (v.1 16) k 11)) 17 (gap (v.1 17) k 11)) k
theorem T_remove_C (v : gV) {n k : Nat} (h : v.1 11 1 = nI n) (hk : k < n) (hn : n ≤ 12) (hx : chars v 1) : p_X2_remove 1 (nI k) v ∧ f_X2_remove 1 (nI k) v = cRmC v n k := by
  have hr := T_removeId_C v h hk hn
  have hk12 : k < 12 := by omega
  have e : f_X2_remove 1 (nI k) v = f_X2_remove_39 1 5000 (nI k) (f_X11_closeGap 17 12 (nI k) (f_X11_closeGap 16 12 (nI k) (f_X11_closeGap 15 12 (nI k) (f_X11_closeGap 13 12 (nI k) (f_X6_removeId_C 1 (nI k) v))))) := by
    simp only [f_X2_remove_76, f_X2_remove_59, f_X2_remove_37, f_X2_remove_29, f_X2_remove_21, f_X2_remove_13, f_X2_remove_5, f_X2_remove_0, f_X2_remove, Nat.reduceAdd]
  have es : f_X11_closeGap 17 12 (nI k) (f_X11_closeGap 16 12 (nI k) (f_X11_closeGap 15 12 (nI k) (f_X11_closeGap 13 12 (nI k) (f_X6_removeId_C 1 (nI k) v)))) = vRow (vRow (vRow (vRow (vRow (vRow v 12 (gap (v.1 12) k 11)) 11 (upd (v.1 11) 1 (nI (n - 1)))) 13 (gap (v.1 13) k 11)) 15 (gap (v.1 15) k 11)) 16 (gap (v.1 16) k 11)) 17 (gap (v.1 17) k 11) := by
    rw [hr.2]
    rw [F_cg12 (v := v) (j := 13) hk12 (by simp (disch := omega) only [vRow_ne])]
    rw [F_cg12 (v := v) (j := 15) hk12 (by simp (disch := omega) only [vRow_ne])]
    rw [F_cg12 (v := v) (j := 16) hk12 (by simp (disch := omega) only [vRow_ne])]
    rw [F_cg12 (v := v) (j := 17) hk12 (by simp (disch := omega) only [vRow_ne])]
  generalize hu : vRow (vRow (vRow (vRow (vRow (vRow v 12 (gap (v.1 12) k 11)) 11 (upd (v.1 11) 1 (nI (n - 1)))) 13 (gap (v.1 13) k 11)) 15 (gap (v.1 15) k 11)) 16 (gap (v.1 16) k 11)) 17 (gap (v.1 17) k 11) = u at es
  have hne : ∀ j, j = 14 ∨ 17 < j → u.1 j = v.1 j := fun j hj => by
    subst hu
    simp (disch := omega) only [vRow_ne]
  have hl := L_remove_C (11 - k) k 5000 u (by omega) (by omega) (chars_congr (hne 14 (by omega)) hx)
  have e2 : rmC u u k = cRmC v n k := by
    unfold cRmC
    rw [hu]
    unfold rmC
    apply Prod.ext
    · funext j
      show (if j = 14 then gap (u.1 14) k 11 else if 19 + k ≤ j ∧ j < 30 then cpy (u.1 (j + 1)) (u.1 j) 4 else u.1 j) = if j = 14 then gap (v.1 14) k 11 else if 19 + k ≤ j ∧ j < 30 then cpy (v.1 (j + 1)) (v.1 j) 4 else u.1 j
      rw [hne 14 (by omega)]
      by_cases h1 : j = 14
      · rw [if_pos h1, if_pos h1]
      · rw [if_neg h1, if_neg h1]
        by_cases h2 : 19 + k ≤ j ∧ j < 30
        · rw [if_pos h2, if_pos h2, hne (j + 1) (by omega), hne j (by omega)]
        · rw [if_neg h2, if_neg h2]
    · rfl
  constructor
  · simp only [p_X2_remove_76, p_X2_remove_59, p_X2_remove_37, p_X2_remove_29, p_X2_remove_21, p_X2_remove_13, p_X2_remove_5, p_X2_remove_0, p_X2_remove, Nat.reduceAdd, hr.1, P_cg12 _ _ hk12, true_and]
    rw [es]
    exact hl.1
  · rw [e, es, hl.2, e2]
theorem rmC_ne (v u : gV) {i j : Nat} (h : ¬ j = 14) (h2 : ¬ (19 + i ≤ j ∧ j < 30)) : (rmC v u i).1 j = u.1 j := by
  show (if j = 14 then gap (v.1 14) i 11 else if 19 + i ≤ j ∧ j < 30 then cpy (v.1 (j + 1)) (v.1 j) 4 else u.1 j) = u.1 j
  rw [if_neg h, if_neg h2]
theorem cRmC_14 (v : gV) (n k : Nat) : (cRmC v n k).1 14 = gap (v.1 14) k 11 := rfl
theorem cRmC_row (v : gV) {n k i o : Nat} (hi : i < 11) (ho : o < 4) : (cRmC v n k).1 (19 + i) o = if i < k then v.1 (19 + i) o else v.1 (19 + (i + 1)) o := by
  show (if 19 + i = 14 then gap (v.1 14) k 11 else if 19 + k ≤ 19 + i ∧ 19 + i < 30 then cpy (v.1 (19 + i + 1)) (v.1 (19 + i)) 4 else (vRow _ _ _).1 (19 + i)) o = _
  rw [if_neg (by omega)]
  by_cases h : i < k
  · rw [if_neg (by omega), if_pos h]
    simp (disch := omega) only [vRow_ne]
  · rw [if_pos (by omega), if_neg h, cpy_lt ho, show 19 + i + 1 = 19 + (i + 1) by omega]
theorem cRmC_ne (v : gV) {n k j : Nat} (h : j < 11 ∨ j = 18 ∨ 30 < j) : (cRmC v n k).1 j = v.1 j := by
  unfold cRmC
  rw [rmC_ne _ _ (by omega) (by omega)]
  simp (disch := omega) only [vRow_ne]
theorem cRmC_Fr (v : gV) (n k : Nat) : Fr v (cRmC v n k) := ⟨rfl, fun j hj => cRmC_ne v (by omega)⟩
theorem mRem_c (w : Nat → Int32) {n k i o : Nat} (hi : i + 1 < n) (ho : o < 12) : mRem w n k (72 + 12 * i + o) = if i < k then w (72 + 12 * i + o) else w (72 + 12 * (i + 1) + o) := by
  unfold mRem rmv
  rw [fil_out (by omega)]
  by_cases h : i < k
  · rw [shf_out (by omega), upd_ne (by omega), if_pos h]
  · rw [shf_in (by omega), upd_ne (by omega), if_neg h, show 72 + 12 * i + o + 12 = 72 + 12 * (i + 1) + o by omega]
theorem mRem_ne (w : Nat → Int32) {n k i : Nat} (h : i < 72 ∨ 216 ≤ i) (h1 : ¬ i = 1) (hn : n ≤ 12) (h0 : 0 < n) : mRem w n k i = w i := by
  unfold mRem rmv
  rw [fil_out (by omega), shf_out (by omega), upd_ne h1]
theorem mRem_1 (w : Nat → Int32) {n k : Nat} : mRem w n k 1 = nI (n - 1) := by
  unfold mRem rmv
  rw [fil_out (by omega), shf_out (by omega), upd_eq]
/-- a claim's row taken out: what holds before but for the first capacities holds behind -/
theorem BR_rem {B np nc nt no k : Nat} {v : gV} {w : Nat → Int32} (hk : k < nc) (hw : Wn w np nc nt no) (hs : WFs B w) (wp : WFp B w np) (wc : WFc w np nc nt) (wt : WFt w nt) (we : WFe B w) (wo : WFo w no) (bs : BRs v 1 w np nc nt no) (bp : BRp v 1 w np) (bc : BRc v 1 w nc) (bt : BRt v 1 w nt) (be : BRe v 1 w) (bo : BRo v 1 w no) (bx : chars v 1) (hb : v.1 1 6 = v.1 1 7 - v.1 1 8 - v.1 1 9 - v.1 1 10 + v.1 1 11) (hcap : ∀ o, o < nt → (v.1 35 o).toInt ≤ 99 ∧ (w (216 + 4 * o + 2)).toInt + (sI (fun i => prt w i o) nc - prt w k o) ≤ (v.1 35 o).toInt) : BR B (cRmC v nc k) 1 (mRem w nc k) np (nc - 1) nt no := by
  obtain ⟨n1, n2, n3, n4, n5, n6, n7, n8⟩ := id hw
  obtain ⟨s1, s2, s3, s4, s5, s6, s7, s8⟩ := id bs
  have mne : ∀ i, i < 72 ∨ 216 ≤ i → ¬ i = 1 → mRem w nc k i = w i := fun i h1 h2 => mRem_ne w h1 h2 n6 (by omega)
  have mc : ∀ i o, i + 1 < nc → o < 12 → mRem w nc k (72 + 12 * i + o) = if i < k then w (72 + 12 * i + o) else w (72 + 12 * (i + 1) + o) := fun i o h1 h2 => mRem_c w h1 h2
  have mc0 : ∀ i, i + 1 < nc → mRem w nc k (72 + 12 * i) = if i < k then w (72 + 12 * i) else w (72 + 12 * (i + 1)) := fun i h1 => mc i 0 h1 (by omega)
  have mprt : ∀ i o, i + 1 < nc → o < 4 → prt (mRem w nc k) i o = if i < k then prt w i o else prt w (i + 1) o := fun i o h1 h2 => by
    unfold prt
    rw [mc i (6 + o) h1 (by omega)]
    by_cases h : i < k
    · rw [if_pos h, if_pos h]
    · rw [if_neg h, if_neg h]
  refine ⟨⟨?_, mRem_1 w, ?_, ?_, n5, by omega, n7, n8⟩, ?_, ?_, ⟨?_, ?_⟩, ?_, ?_, ?_, ?_, ?_, ?_, ?_, ?_, ?_, ⟨?_, ?_⟩, ?_⟩
  · rw [mne 0 (by omega) (by omega)]; exact n1
  · rw [mne 2 (by omega) (by omega)]; exact n3
  · rw [mne 3 (by omega) (by omega)]; exact n4
  · unfold WFs
    rw [mne 4 (by omega) (by omega), mne 5 (by omega) (by omega), mne 6 (by omega) (by omega)]
    exact hs
  · exact WFp_congr n5 (Nat.le_refl _) (by rw [mne 4 (by omega) (by omega)]; exact Int.le_refl _) (fun i h1 h2 => mne i (by omega) (by omega)) wp
  · intro i hi
    unfold WFc1
    rw [mne 5 (by omega) (by omega), mne 6 (by omega) (by omega), mc0 i (by omega), mc i 1 (by omega) (by omega), mc i 2 (by omega) (by omega), mc i 3 (by omega) (by omega), mc i 4 (by omega) (by omega), mc i 5 (by omega) (by omega)]
    by_cases hik : i < k
    · obtain ⟨c1, c2, ⟨q, hq, c3⟩, c4, c5, c6, c7, c8, c9, c10, c11, c12, c13⟩ := wc.1 i (by omega)
      have hp2 : ∀ o, o < 4 → prt (mRem w nc k) i o = prt w i o := fun o ho => by rw [mprt i o (by omega) ho, if_pos hik]
      simp only [if_pos hik]
      exact ⟨c1, c2, ⟨q, hq, by rw [mne _ (by omega) (by omega)]; exact c3⟩, c4, c5, c6, c7, c8, c9, c10, fun o ho => by rw [hp2 o ho]; exact c11 o ho, by rw [sI_congr hp2]; exact c12, fun o ho h2 => by rw [mc i (6 + o) (by omega) (by omega), if_pos hik]; exact c13 o ho h2⟩
    · obtain ⟨c1, c2, ⟨q, hq, c3⟩, c4, c5, c6, c7, c8, c9, c10, c11, c12, c13⟩ := wc.1 (i + 1) (by omega)
      have hp2 : ∀ o, o < 4 → prt (mRem w nc k) i o = prt w (i + 1) o := fun o ho => by rw [mprt i o (by omega) ho, if_neg hik]
      simp only [if_neg hik]
      exact ⟨c1, c2, ⟨q, hq, by rw [mne _ (by omega) (by omega)]; exact c3⟩, c4, c5, c6, c7, c8, c9, c10, fun o ho => by rw [hp2 o ho]; exact c11 o ho, by rw [sI_congr hp2]; exact c12, fun o ho h2 => by rw [mc i (6 + o) (by omega) (by omega), if_neg hik]; exact c13 o ho h2⟩
  · intro j i hj hi
    rw [mc0 i (by omega), mc0 j (by omega)]
    by_cases h1 : i < k
    · rw [if_pos h1, if_pos (by omega)]
      exact wc.2 j i hj (by omega)
    · rw [if_neg h1]
      by_cases h2 : j < k
      · rw [if_pos h2]
        exact wc.2 j (i + 1) (by omega) (by omega)
      · rw [if_neg h2]
        exact wc.2 (j + 1) (i + 1) (by omega) (by omega)
  · exact WFt_congr n7 (fun i h1 h2 => mne i (by omega) (by omega)) wt
  · exact WFe_congr (Nat.le_refl _) (fun i h1 h2 => mne i (by omega) (by omega)) we
  · exact WFo_congr n8 (fun i h1 h2 => mne i (by omega) (by omega)) wo
  · unfold BRs
    have h11 : (cRmC v nc k).1 (1 + 10) = upd (v.1 11) 1 (nI (nc - 1)) := by
      unfold cRmC
      rw [rmC_ne _ _ (by omega) (by omega)]
      simp (disch := omega) only [Nat.reduceAdd, vRow_eq, vRow_ne]
    rw [mne 4 (by omega) (by omega), mne 5 (by omega) (by omega), mne 6 (by omega) (by omega), mne 7 (by omega) (by omega), cRmC_ne (j := 1 + 1) _ (by omega), cRmC_ne (j := 1 + 30) _ (by omega), cRmC_ne (j := 1 + 45) _ (by omega), cRmC_ne (j := 1) _ (by omega), h11]
    exact ⟨s1, s2, upd_eq _ _ _, by rw [upd_ne (by omega)]; exact s4, s5, s6, s7, s8⟩
  · exact BRp_congr n5 (fun o h1 h2 => cRmC_ne _ (by omega)) (fun i h1 h2 => mne i (by omega) (by omega)) bp
  · intro i hi
    have hr : ∀ j, j = 12 ∨ j = 13 ∨ j = 15 ∨ j = 16 ∨ j = 17 → (cRmC v nc k).1 j i = if i < k then v.1 j i else v.1 j (i + 1) := fun j hj => by
      rw [← gap_i (r := v.1 j) (n := 11) (by omega)]
      unfold cRmC
      rw [rmC_ne _ _ (by omega) (by omega)]
      rcases hj with rfl | rfl | rfl | rfl | rfl <;> simp (disch := omega) only [vRow_eq, vRow_ne]
    rw [mc0 i (by omega), mc i 1 (by omega) (by omega), mc i 2 (by omega) (by omega), mc i 3 (by omega) (by omega), mc i 4 (by omega) (by omega), mc i 5 (by omega) (by omega), hr (1 + 11) (by omega), hr (1 + 12) (by omega), hr (1 + 14) (by omega), hr (1 + 15) (by omega), hr (1 + 16) (by omega), show 1 + 13 = 14 from rfl, cRmC_14, gap_i _ (by omega)]
    have hrow : ∀ o, o < 4 → (cRmC v nc k).1 (1 + 18 + i) o = if i < k then v.1 (1 + 18 + i) o else v.1 (1 + 18 + (i + 1)) o := fun o ho => by
      have := cRmC_row v (n := nc) (k := k) (i := i) (o := o) (by omega) ho
      exact this
    by_cases hik : i < k
    · have h1 := bc i (by omega)
      simp only [if_pos hik]
      exact ⟨h1.1, h1.2.1, h1.2.2.1, h1.2.2.2.1, h1.2.2.2.2.1, h1.2.2.2.2.2.1, fun o ho => by rw [hrow o ho, if_pos hik, mc i (6 + o) (by omega) (by omega), if_pos hik]; exact h1.2.2.2.2.2.2 o ho⟩
    · have h1 := bc (i + 1) (by omega)
      simp only [if_neg hik]
      exact ⟨h1.1, h1.2.1, h1.2.2.1, h1.2.2.2.1, h1.2.2.2.2.1, h1.2.2.2.2.2.1, fun o ho => by rw [hrow o ho, if_neg hik, mc i (6 + o) (by omega) (by omega), if_neg hik]; exact h1.2.2.2.2.2.2 o ho⟩
  · exact BRt_congr n7 (fun o h1 h2 => cRmC_ne _ (by omega)) (fun i h1 h2 => mne i (by omega) (by omega)) bt
  · exact BRe_congr (fun o h1 h2 => cRmC_ne _ (by omega)) (fun i h1 h2 => mne i (by omega) (by omega)) be
  · exact BRo_congr n8 (fun o h1 h2 => cRmC_ne _ (by omega)) (fun i h1 h2 => mne i (by omega) (by omega)) bo
  · rw [cRmC_ne (j := 1) _ (by omega)]
    exact hb
  · intro o ho
    have h1 := hcap o ho
    rw [show 1 + 34 = 35 from rfl, cRmC_ne (j := 35) _ (by omega), mne _ (by omega) (by omega)]
    refine ⟨h1.1, ?_⟩
    have h2 : sI (fun i => prt (mRem w nc k) i o) (nc - 1) = sI (fun i => prt w i o) nc - prt w k o := by
      rw [sI_congr (g := fun i => if i < k then prt w i o else prt w (i + 1) o) fun i hi => mprt i o (by omega) (by omega), sI_rm (f := fun i => prt w i o) (by omega), show nc - 1 + 1 = nc by omega]
    rw [h2]
    exact h1.2
  · intro i hi
    rw [show 1 + 13 = 14 from rfl, cRmC_14]
    unfold gap
    by_cases h1 : k ≤ i ∧ i < 11
    · rw [if_pos h1]
      exact bx (i + 1) (by omega)
    · rw [if_neg h1]
      exact bx i hi
def eClo (y : Int32) : String := if y = nI 1 then "java/util/NoSuchElementException" else "java/lang/IllegalStateException"
theorem K_removePaid (x : Int32) (v : gV) {w : Nat → Int32} {B np nc nt no : Nat} (h : BR B v 1 w np nc nt no) : p_X1_removePaidClaim 1 x v ∧ (¬ yClo w nc x = nI 0 → f_X1_removePaidClaim 1 x v = (Sum.inr (eClo (yClo w nc x)), v) ∧ (yClo w nc x = nI 1 ∨ yClo w nc x = nI 2)) ∧ (yClo w nc x = nI 0 → ∃ k v', clm w nc x = some k ∧ f_X1_removePaidClaim 1 x v = (Sum.inl (w (72 + 12 * k + 3)), v') ∧ Fr v v' ∧ BR (B + 1) v' 1 (mRem w nc k) np (nc - 1) nt no) := by
  obtain ⟨hw, hs, wp, wc, wt, we, wo, bs, bp, bc, bt, be, bo, bk, bx⟩ := h
  obtain ⟨n1, n2, n3, n4, n5, n6, n7, n8⟩ := id hw
  obtain ⟨s1, s2, s3, s4, s5, s6, s7, s8⟩ := id bs
  have q1 : ¬ nI 1 = nI 0 := n10
  have q2 : ¬ nI 2 = nI 0 := by decide +kernel
  have z1 : eClo (nI 1) = "java/util/NoSuchElementException" := rfl
  have z2 : eClo (nI 2) = "java/lang/IllegalStateException" := rfl
  obtain ⟨pp, pf⟩ := F_placeOf_C n6 bs bc x
  unfold yClo
  cases e : clm w nc x with
  | none =>
    rw [e] at pf
    have pf' : f_X6_placeOf_C 1 x v = Sum.inr "java/util/NoSuchElementException" := pf
    refine ⟨?_, fun _ => ⟨?_, Or.inl rfl⟩, fun h => absurd h q1⟩
    · simp only [p_X1_removePaidClaim_48, p_X1_removePaidClaim_8, p_X1_removePaidClaim_0, p_X1_removePaidClaim, pp, pf', reduceIte, if_true, if_false, true_and, and_true, false_and, and_false, and_self, not_true_eq_false, not_false_eq_true, true_implies, false_implies, implies_true, forall_const, Bool.false_eq_true, el_l, el_r, Sum.inl.injEq, reduceCtorEq, forall_eq, forall_eq']
    · simp only [f_X1_removePaidClaim_48, f_X1_removePaidClaim_8, f_X1_removePaidClaim_0, f_X1_removePaidClaim, pf', reduceIte, if_true, if_false, true_and, and_true, false_and, and_false, and_self, not_true_eq_false, not_false_eq_true, true_implies, false_implies, implies_true, forall_const, Bool.false_eq_true, el_l, el_r, Sum.inl.injEq, reduceCtorEq, forall_eq, forall_eq', Option.elim, z1]
  | some k =>
    have hk := clm_lt e
    rw [e] at pf
    have pf' : f_X6_placeOf_C 1 x v = Sum.inl (nI k) := pf
    obtain ⟨a1, a2, a3, a4, a5, a6, a7, a8, a9, a10, a11, a12, a13⟩ := wc.1 k hk
    have b4 : v.1 15 k = w (72 + 12 * k + 3) := (bc k hk).2.2.2.1
    have b5 : v.1 16 k = w (72 + 12 * k + 4) := (bc k hk).2.2.2.2.1
    have hu : f_X2_unpaidAt 1 (nI k) v = w (72 + 12 * k + 3) - w (72 + 12 * k + 4) := by
      simp (disch := omega) only [f_X2_unpaidAt_0, f_X2_unpaidAt, Nat.reduceAdd, cl_n, b4, b5]
    have hup : p_X2_unpaidAt 1 (nI k) v := by
      simp (disch := omega) only [p_X2_unpaidAt_0, p_X2_unpaidAt, vi_n, and_self]
    have hle : (w (72 + 12 * k + 3) - w (72 + 12 * k + 4) ≤ 0) ↔ w (72 + 12 * k + 3) ≤ w (72 + 12 * k + 4) := by
      rw [i_le, i_le, ti_sub (by omega) (by omega), show (0 : Int32).toInt = 0 from rfl]
      omega
    obtain ⟨rp, rf⟩ := T_remove_C v s3 hk n6 bx
    by_cases hp : w (72 + 12 * k + 3) ≤ w (72 + 12 * k + 4)
    · have hp0 : w (72 + 12 * k + 3) - w (72 + 12 * k + 4) ≤ nI 0 := hle.mpr hp
      refine ⟨?_, fun h => absurd (if_pos hp) h, fun _ => ⟨k, cRmC v nc k, rfl, ?_, cRmC_Fr v nc k, ?_⟩⟩
      · simp (disch := omega) only [p_X1_removePaidClaim_48, p_X1_removePaidClaim_8, p_X1_removePaidClaim_0, p_X1_removePaidClaim, pp, pf', hu, hup, hp0, rp, vi_n, li_0, li_1, li_2, li_3, li_4, li_5, li_6, li_7, li_8, li_9, li_10, li_11, li_12, li_29, li_30, li_32, li_33, li_35, li_42, li_43, li_45, li_47, li_48, li_50, li_57, li_58, li_59, li_60, li_61, li_63, li_64, li_67, li_68, li_72, li_78, li_79, li_80, li_97, li_99, li_100, li_101, li_102, li_103, li_105, li_108, li_109, li_110, li_111, li_112, li_114, li_115, li_116, li_117, li_118, li_119, li_120, li_121, li_126, li_216, li_232, li_240, li_264, li_300, li_1000, li_1000000, li_2147483647, reduceIte, if_true, if_false, true_and, and_true, false_and, and_false, and_self, not_true_eq_false, not_false_eq_true, true_implies, false_implies, implies_true, forall_const, Bool.false_eq_true, el_l, el_r, Sum.inl.injEq, reduceCtorEq, forall_eq, forall_eq']
      · simp (disch := omega) only [f_X1_removePaidClaim_48, f_X1_removePaidClaim_8, f_X1_removePaidClaim_0, f_X1_removePaidClaim, pf', hu, hp0, rf, cl_n, Nat.reduceAdd, b4, li_0, li_1, li_2, li_3, li_4, li_5, li_6, li_7, li_8, li_9, li_10, li_11, li_12, li_29, li_30, li_32, li_33, li_35, li_42, li_43, li_45, li_47, li_48, li_50, li_57, li_58, li_59, li_60, li_61, li_63, li_64, li_67, li_68, li_72, li_78, li_79, li_80, li_97, li_99, li_100, li_101, li_102, li_103, li_105, li_108, li_109, li_110, li_111, li_112, li_114, li_115, li_116, li_117, li_118, li_119, li_120, li_121, li_126, li_216, li_232, li_240, li_264, li_300, li_1000, li_1000000, li_2147483647, reduceIte, if_true, if_false, true_and, and_true, false_and, and_false, and_self, not_true_eq_false, not_false_eq_true, true_implies, false_implies, implies_true, forall_const, Bool.false_eq_true, el_l, el_r, Sum.inl.injEq, reduceCtorEq, forall_eq, forall_eq']
      · exact (BR_rem hk hw hs wp wc wt we wo bs bp bc bt be bo bx bk.1 (fun o ho => by
          have h1 := bk.2 o ho
          have h2 := a11 o (by omega)
          exact ⟨h1.1, by have h3 := h1.2; show _ ≤ (v.1 (1 + 34) o).toInt; omega⟩)).mono (by omega)
    · have hp0 : ¬ w (72 + 12 * k + 3) - w (72 + 12 * k + 4) ≤ nI 0 := fun h => hp (hle.mp h)
      refine ⟨?_, fun _ => ⟨?_, Or.inr (if_neg hp)⟩, fun h => absurd h (by show ¬ (if _ then _ else _) = _; rw [if_neg hp]; exact q2)⟩
      · simp (disch := omega) only [p_X1_removePaidClaim_48, p_X1_removePaidClaim_8, p_X1_removePaidClaim_0, p_X1_removePaidClaim, pp, pf', hu, hup, hp0, li_0, li_1, li_2, li_3, li_4, li_5, li_6, li_7, li_8, li_9, li_10, li_11, li_12, li_29, li_30, li_32, li_33, li_35, li_42, li_43, li_45, li_47, li_48, li_50, li_57, li_58, li_59, li_60, li_61, li_63, li_64, li_67, li_68, li_72, li_78, li_79, li_80, li_97, li_99, li_100, li_101, li_102, li_103, li_105, li_108, li_109, li_110, li_111, li_112, li_114, li_115, li_116, li_117, li_118, li_119, li_120, li_121, li_126, li_216, li_232, li_240, li_264, li_300, li_1000, li_1000000, li_2147483647, reduceIte, if_true, if_false, true_and, and_true, false_and, and_false, and_self, not_true_eq_false, not_false_eq_true, true_implies, false_implies, implies_true, forall_const, Bool.false_eq_true, el_l, el_r, Sum.inl.injEq, reduceCtorEq, forall_eq, forall_eq']
      · simp (disch := omega) only [f_X1_removePaidClaim_48, f_X1_removePaidClaim_8, f_X1_removePaidClaim_0, f_X1_removePaidClaim, pf', hu, hp0, hp, li_0, li_1, li_2, li_3, li_4, li_5, li_6, li_7, li_8, li_9, li_10, li_11, li_12, li_29, li_30, li_32, li_33, li_35, li_42, li_43, li_45, li_47, li_48, li_50, li_57, li_58, li_59, li_60, li_61, li_63, li_64, li_67, li_68, li_72, li_78, li_79, li_80, li_97, li_99, li_100, li_101, li_102, li_103, li_105, li_108, li_109, li_110, li_111, li_112, li_114, li_115, li_116, li_117, li_118, li_119, li_120, li_121, li_126, li_216, li_232, li_240, li_264, li_300, li_1000, li_1000000, li_2147483647, reduceIte, if_true, if_false, true_and, and_true, false_and, and_false, and_self, not_true_eq_false, not_false_eq_true, true_implies, false_implies, implies_true, forall_const, Bool.false_eq_true, el_l, el_r, Sum.inl.injEq, reduceCtorEq, forall_eq, forall_eq', Option.elim, z2]
/-! a claim withdrawn -/
def cgB (v : gV) (r : Nat → Int32) (i e : Nat) : Nat → Int32 := lp (fun o w => upd w o (w o + r o)) (e - i) i (v.1 34)
theorem L_giveBack (v : gV) {n j : Nat} (hn : n ≤ 4) (hj : ¬ j = 34) : ∀ (m i fuel : Nat) (r : Nat → Int32), i + m = n → m < fuel → v.1 31 6 = nI n → p_X8_giveBack_2 1 j fuel (nI i) (vRow v 34 r) ∧ f_X8_giveBack_2 1 j fuel (nI i) (vRow v 34 r) = vRow v 34 (lp (fun o w => upd w o (w o + v.1 j o)) m i r) := by
  intro m
  induction m with
  | zero =>
    intro i fuel r hk hf h6
    obtain ⟨f, rfl⟩ := fuel_s hf
    have hc : (vRow v 34 r).1 (1 + 30) 6 ≤ nI i := by
      rw [vRow_ne _ _ (by omega), show v.1 (1 + 30) 6 = nI n from h6]
      exact nI_le (by omega) (by omega)
    rw [p_X8_giveBack_2, f_X8_giveBack_2, if_pos hc, lp_0]
    exact ⟨⟨fun _ => trivial, fun h => absurd hc h⟩, rfl⟩
  | succ m ih =>
    intro i fuel r hk hf h6
    obtain ⟨f, rfl⟩ := fuel_s hf
    have hc : ¬ (vRow v 34 r).1 (1 + 30) 6 ≤ nI i := by
      rw [vRow_ne _ _ (by omega), show v.1 (1 + 30) 6 = nI n from h6]
      exact nI_ge (by omega) (by omega)
    have hi := ih (i + 1) f (upd r i (r i + v.1 j i)) (by omega) (by omega) h6
    have hv : vM (vRow v 34 r) (1 + 33) i ((vRow v 34 r).1 (1 + 33) i + (vRow v 34 r).1 j i) = vRow v 34 (upd r i (r i + v.1 j i)) := by
      rw [show 1 + 33 = 34 from rfl, vM_rw, vRow_row, vRow_eq, vRow_ne _ _ hj]
    rw [p_X8_giveBack_2, f_X8_giveBack_2, if_neg hc, lp_s, cl_n (by omega), hv]
    simp only [f_X8_giveBack_22, p_X8_giveBack_22, nI_1]
    exact ⟨⟨fun h => absurd h hc, fun _ => ⟨vi_n (by omega) (by omega), vi_n (by omega) (by omega), vi_n (by omega) (by omega), hi.1⟩⟩, hi.2⟩
theorem K_giveBack (v : gV) {n j : Nat} (hn : n ≤ 4) (hj : ¬ j = 34) (h6 : v.1 31 6 = nI n) : p_X8_giveBack 1 j v ∧ f_X8_giveBack 1 j v = vRow v 34 (lp (fun o w => upd w o (w o + v.1 j o)) n 0 (v.1 34)) := by
  have h := L_giveBack v hn hj n 0 5000 (v.1 34) (by omega) (by omega) h6
  rw [vRow_self] at h
  exact h
theorem lp_add (r d : Nat → Int32) (n : Nat) : ∀ o, lp (fun o w => upd w o (w o + d o)) n 0 r o = if o < n then r o + d o else r o := by
  have h := lp_inv (g := fun o w => upd w o (w o + d o)) (fun i (u : Nat → Int32) => ∀ o, u o = if o < i then r o + d o else r o) n 0 r (fun o => by rw [if_neg (by omega)]) (fun i u _ _ hu o => by
    show upd u i (u i + d i) o = _
    by_cases e : o = i
    · subst e
      rw [upd_eq, hu, if_neg (by omega), if_pos (by omega)]
    · rw [upd_ne e, hu]
      by_cases h1 : o < i
      · rw [if_pos h1, if_pos (by omega)]
      · rw [if_neg h1, if_neg (by omega)])
  rw [Nat.zero_add] at h
  exact h
theorem giv_at (w : Nat → Int32) {k n : Nat} (hk : k < 12) (hn : n ≤ 4) : (∀ o, o < n → giv w k 0 n (216 + 4 * o + 2) = w (216 + 4 * o + 2) + w (72 + 12 * k + (6 + o))) ∧ ∀ j, (∀ o, o < n → ¬ j = 216 + 4 * o + 2) → giv w k 0 n j = w j := by
  unfold giv
  have h := lp_inv (g := fun o w => upd w (216 + 4 * o + 2) (w (216 + 4 * o + 2) + w (72 + 12 * k + (6 + o)))) (fun i (u : Nat → Int32) => i ≤ n → (∀ o, o < i → u (216 + 4 * o + 2) = w (216 + 4 * o + 2) + w (72 + 12 * k + (6 + o))) ∧ ∀ j, (∀ o, o < i → ¬ j = 216 + 4 * o + 2) → u j = w j) (n - 0) 0 w (fun _ => ⟨fun o ho => by omega, fun j _ => rfl⟩) (fun i u _ _ hu hin => by
    have hu := hu (by omega)
    refine ⟨fun o ho => ?_, fun j hj => ?_⟩
    · by_cases e : o = i
      · subst e
        show upd u (216 + 4 * o + 2) (u (216 + 4 * o + 2) + u (72 + 12 * k + (6 + o))) (216 + 4 * o + 2) = _
        rw [upd_eq, hu.2 (216 + 4 * o + 2) (fun q hq => by omega), hu.2 (72 + 12 * k + (6 + o)) (fun q hq => by omega)]
      · show upd u (216 + 4 * i + 2) _ (216 + 4 * o + 2) = _
        rw [upd_ne (by omega)]
        exact hu.1 o (by omega)
    · show upd u (216 + 4 * i + 2) _ j = w j
      rw [upd_ne (hj i (by omega))]
      exact hu.2 j fun o ho => hj o (by omega))
  rw [Nat.zero_add] at h
  exact h (by omega)
def cWai (v : gV) (nt nc k q : Nat) (a : Int32) : gV := cRmC (vRow (vRow v 9 (upd (v.1 9) q (v.1 9 q - a))) 34 (lp (fun o w => upd w o (w o + v.1 (19 + k) o)) nt 0 (v.1 34))) nc k
theorem Fr_row2 (v : gV) (f g : Nat → Int32) : Fr v (vRow (vRow v 9 f) 34 g) := ⟨rfl, fun j hj => by rw [vRow_ne _ _ (by omega), vRow_ne _ _ (by omega)]⟩
theorem K_removeUnpaid (x : Int32) (v : gV) {w : Nat → Int32} {B np nc nt no : Nat} (hB : B < 40000) (h : BR B v 1 w np nc nt no) : p_X1_removeUnpaidClaim 1 x v ∧ (¬ yWai w nc x = nI 0 → f_X1_removeUnpaidClaim 1 x v = (Sum.inr (eClo (yWai w nc x)), v) ∧ (yWai w nc x = nI 1 ∨ yWai w nc x = nI 2)) ∧ (yWai w nc x = nI 0 → ∃ k q v', clm w nc x = some k ∧ pol w np (w (72 + 12 * k + 1)) = some q ∧ f_X1_removeUnpaidClaim 1 x v = (Sum.inl (w (72 + 12 * k + 3)), v') ∧ Fr v v' ∧ BR (B + 1) v' 1 (mWai w nt nc k q) np (nc - 1) nt no) := by
  obtain ⟨hw, hs, wp, wc, wt, we, wo, bs, bp, bc, bt, be, bo, bk, bx⟩ := h
  obtain ⟨n1, n2, n3, n4, n5, n6, n7, n8⟩ := id hw
  obtain ⟨s1, s2, s3, s4, s5, s6, s7, s8⟩ := id bs
  have q1 : ¬ nI 1 = nI 0 := n10
  have q2 : ¬ nI 2 = nI 0 := by decide +kernel
  have z1 : eClo (nI 1) = "java/util/NoSuchElementException" := rfl
  have z2 : eClo (nI 2) = "java/lang/IllegalStateException" := rfl
  obtain ⟨pp, pf⟩ := F_placeOf_C n6 bs bc x
  unfold yWai
  cases e : clm w nc x with
  | none =>
    rw [e] at pf
    have pf' : f_X6_placeOf_C 1 x v = Sum.inr "java/util/NoSuchElementException" := pf
    refine ⟨?_, fun _ => ⟨?_, Or.inl rfl⟩, fun h => absurd h q1⟩
    · simp only [p_X1_removeUnpaidClaim_93, p_X1_removeUnpaidClaim_85, p_X1_removeUnpaidClaim_69, p_X1_removeUnpaidClaim_64, p_X1_removeUnpaidClaim_8, p_X1_removeUnpaidClaim_0, p_X1_removeUnpaidClaim, pp, pf', reduceIte, if_true, if_false, true_and, and_true, false_and, and_false, and_self, not_true_eq_false, not_false_eq_true, true_implies, false_implies, implies_true, forall_const, Bool.false_eq_true, el_l, el_r, Sum.inl.injEq, reduceCtorEq, forall_eq, forall_eq']
    · simp only [f_X1_removeUnpaidClaim_93, f_X1_removeUnpaidClaim_85, f_X1_removeUnpaidClaim_69, f_X1_removeUnpaidClaim_64, f_X1_removeUnpaidClaim_8, f_X1_removeUnpaidClaim_0, f_X1_removeUnpaidClaim, pf', reduceIte, if_true, if_false, true_and, and_true, false_and, and_false, and_self, not_true_eq_false, not_false_eq_true, true_implies, false_implies, implies_true, forall_const, Bool.false_eq_true, el_l, el_r, Sum.inl.injEq, reduceCtorEq, forall_eq, forall_eq', Option.elim, z1]
  | some k =>
    have hk := clm_lt e
    rw [e] at pf
    have pf' : f_X6_placeOf_C 1 x v = Sum.inl (nI k) := pf
    obtain ⟨a1, a2, ⟨q', hq', a3⟩, a4, a5, a6, a7, a8, a9, a10, a11, a12, a13⟩ := wc.1 k hk
    have b2 : v.1 13 k = w (72 + 12 * k + 1) := (bc k hk).2.1
    have b4 : v.1 15 k = w (72 + 12 * k + 3) := (bc k hk).2.2.2.1
    have b5 : v.1 16 k = w (72 + 12 * k + 4) := (bc k hk).2.2.2.2.1
    by_cases hp : w (72 + 12 * k + 4) ≤ nI 0
    · obtain ⟨q, eq⟩ := fid_is (r := fun k => w (8 + 8 * k)) (n := np) (x := w (72 + 12 * k + 1)) hq' a3
      have eq : pol w np (w (72 + 12 * k + 1)) = some q := eq
      have hq := pol_lt eq
      obtain ⟨gp, gf⟩ := F_placeOf_P n5 bs bp (w (72 + 12 * k + 1))
      rw [eq] at gf
      have gf' : f_X6_placeOf_P 1 (w (72 + 12 * k + 1)) v = Sum.inl (nI q) := gf
      have hg := K_giveBack (vRow v 9 (upd (v.1 9) q (v.1 9 q - w (72 + 12 * k + 3)))) (n := nt) (j := 19 + k) n7 (by omega) (by rw [vRow_ne _ _ (by omega)]; exact s5)
      rw [vRow_ne (i := 19 + k) _ _ (by omega), vRow_ne (i := 34) _ _ (by omega)] at hg
      obtain ⟨c1, c2⟩ := T_remove_C (vRow (vRow v 9 (upd (v.1 9) q (v.1 9 q - w (72 + 12 * k + 3)))) 34 (lp (fun o w => upd w o (w o + v.1 (19 + k) o)) nt 0 (v.1 34))) (n := nc) (k := k) (by rw [vRow_ne _ _ (by omega), vRow_ne _ _ (by omega)]; exact s3) hk n6 (chars_congr (by rw [vRow_ne _ _ (by omega), vRow_ne _ _ (by omega)]) bx)
      have b7 : v.1 9 q = w (8 + 8 * q + 6) := (bp q hq).2.2.2.2.2.2
      refine ⟨?_, fun h => absurd (if_pos hp) h, fun _ => ⟨k, q, cWai v nt nc k q (w (72 + 12 * k + 3)), rfl, eq, ?_, ?_, ?_⟩⟩
      · simp (disch := omega) only [p_X1_removeUnpaidClaim_93, p_X1_removeUnpaidClaim_85, p_X1_removeUnpaidClaim_69, p_X1_removeUnpaidClaim_64, p_X1_removeUnpaidClaim_8, p_X1_removeUnpaidClaim_0, p_X1_removeUnpaidClaim, pp, pf', b2, b4, b5, hp, gp, gf', vi_n, cl_n, Nat.reduceAdd, vM_rw, hg, c1, li_0, li_1, li_2, li_3, li_4, li_5, li_6, li_7, li_8, li_9, li_10, li_11, li_12, li_29, li_30, li_32, li_33, li_35, li_42, li_43, li_45, li_47, li_48, li_50, li_57, li_58, li_59, li_60, li_61, li_63, li_64, li_67, li_68, li_72, li_78, li_79, li_80, li_97, li_99, li_100, li_101, li_102, li_103, li_105, li_108, li_109, li_110, li_111, li_112, li_114, li_115, li_116, li_117, li_118, li_119, li_120, li_121, li_126, li_216, li_232, li_240, li_264, li_300, li_1000, li_1000000, li_2147483647, reduceIte, if_true, if_false, true_and, and_true, false_and, and_false, and_self, not_true_eq_false, not_false_eq_true, true_implies, false_implies, implies_true, forall_const, Bool.false_eq_true, el_l, el_r, Sum.inl.injEq, reduceCtorEq, forall_eq, forall_eq']
      · unfold cWai
        simp (disch := omega) only [f_X1_removeUnpaidClaim_93, f_X1_removeUnpaidClaim_85, f_X1_removeUnpaidClaim_69, f_X1_removeUnpaidClaim_64, f_X1_removeUnpaidClaim_8, f_X1_removeUnpaidClaim_0, f_X1_removeUnpaidClaim, pf', b2, b4, b5, hp, gf', cl_n, Nat.reduceAdd, vM_rw, hg, c2, li_0, li_1, li_2, li_3, li_4, li_5, li_6, li_7, li_8, li_9, li_10, li_11, li_12, li_29, li_30, li_32, li_33, li_35, li_42, li_43, li_45, li_47, li_48, li_50, li_57, li_58, li_59, li_60, li_61, li_63, li_64, li_67, li_68, li_72, li_78, li_79, li_80, li_97, li_99, li_100, li_101, li_102, li_103, li_105, li_108, li_109, li_110, li_111, li_112, li_114, li_115, li_116, li_117, li_118, li_119, li_120, li_121, li_126, li_216, li_232, li_240, li_264, li_300, li_1000, li_1000000, li_2147483647, reduceIte, if_true, if_false, true_and, and_true, false_and, and_false, and_self, not_true_eq_false, not_false_eq_true, true_implies, false_implies, implies_true, forall_const, Bool.false_eq_true, el_l, el_r, Sum.inl.injEq, reduceCtorEq, forall_eq, forall_eq']
      · exact (Fr_row2 v _ _).trans (cRmC_Fr _ _ _)
      have tA : ((v.1 9 q - w (72 + 12 * k + 3))).toInt = (w (8 + 8 * q + 6)).toInt - (w (72 + 12 * k + 3)).toInt := by
        have h1 := wp.1 q hq
        unfold WFp1 at h1
        rw [b7, ti_sub (by omega) (by omega)]
      obtain ⟨g1, g2⟩ := giv_at w (k := k) (n := nt) (by omega) n7
      have gA : giv w k 0 nt (8 + 8 * q + 6) = w (8 + 8 * q + 6) := g2 _ fun o ho => by omega
      have gB : giv w k 0 nt (72 + 12 * k + 3) = w (72 + 12 * k + 3) := g2 _ fun o ho => by omega
      have un : ∀ i, ¬ i = 8 + 8 * q + 6 → (∀ o, o < nt → ¬ i = 216 + 4 * o + 2) → upd (giv w k 0 nt) (8 + 8 * q + 6) (giv w k 0 nt (8 + 8 * q + 6) - giv w k 0 nt (72 + 12 * k + 3)) i = w i := fun i h1 h2 => by rw [upd_ne h1]; exact g2 i h2
      have uq : upd (giv w k 0 nt) (8 + 8 * q + 6) (giv w k 0 nt (8 + 8 * q + 6) - giv w k 0 nt (72 + 12 * k + 3)) (8 + 8 * q + 6) = w (8 + 8 * q + 6) - w (72 + 12 * k + 3) := by rw [upd_eq, gA, gB]
      have ut : ∀ o, o < nt → upd (giv w k 0 nt) (8 + 8 * q + 6) (giv w k 0 nt (8 + 8 * q + 6) - giv w k 0 nt (72 + 12 * k + 3)) (216 + 4 * o + 2) = w (216 + 4 * o + 2) + w (72 + 12 * k + (6 + o)) := fun o ho => by rw [upd_ne (by omega)]; exact g1 o ho
      have ult : ∀ i, i < 8 → upd (giv w k 0 nt) (8 + 8 * q + 6) (giv w k 0 nt (8 + 8 * q + 6) - giv w k 0 nt (72 + 12 * k + 3)) i = w i := fun i h1 => un i (by omega) (fun o ho => by omega)
      have uc : ∀ i, 72 ≤ i → i < 216 → upd (giv w k 0 nt) (8 + 8 * q + 6) (giv w k 0 nt (8 + 8 * q + 6) - giv w k 0 nt (72 + 12 * k + 3)) i = w i := fun i h1 h2 => un i (by omega) (fun o ho => by omega)
      have uh : ∀ i, 232 ≤ i → upd (giv w k 0 nt) (8 + 8 * q + 6) (giv w k 0 nt (8 + 8 * q + 6) - giv w k 0 nt (72 + 12 * k + 3)) i = w i := fun i h1 => un i (by omega) (fun o ho => by omega)
      have ec : ∀ o, o < nt → (w (216 + 4 * o + 2) + w (72 + 12 * k + (6 + o))).toInt = (w (216 + 4 * o + 2)).toInt + prt w k o := fun o ho => by
        have h1 := (bk.2 o ho)
        have h2 := (wt o ho).2.2.2.2
        have h3 := sI_le (f := fun i => prt w i o) (n := nc) (i := k) (fun i hi => (wc.1 i hi).2.2.2.2.2.2.2.2.2.2.1 o (by omega)) hk
        have h4 := a11 o (by omega)
        have h3' : prt w k o ≤ sI (fun i => prt w i o) nc := h3
        have h5 : (w (72 + 12 * k + (6 + o))).toInt = prt w k o := rfl
        rw [ti_add (by rw [h5]; omega) (by rw [h5]; omega), h5]
      unfold mWai cWai
      generalize upd (giv w k 0 nt) (8 + 8 * q + 6) (giv w k 0 nt (8 + 8 * q + 6) - giv w k 0 nt (72 + 12 * k + 3)) = u at un uq ut ult uc uh ⊢
      have hprt : ∀ i o, i < nc → o < 4 → prt u i o = prt w i o := fun i o hi ho => by unfold prt; rw [uc _ (by omega) (by omega)]
      have vn : ∀ (f g : Nat → Int32) (j : Nat), ¬ j = 9 → ¬ j = 34 → (vRow (vRow v 9 f) 34 g).1 j = v.1 j := fun f g j h1 h2 => by rw [vRow_ne _ _ h2, vRow_ne _ _ h1]
      refine BR_rem (B := B + 1) hk ⟨by rw [ult 0 (by omega)]; exact n1, by rw [ult 1 (by omega)]; exact n2, by rw [ult 2 (by omega)]; exact n3, by rw [ult 3 (by omega)]; exact n4, n5, n6, n7, n8⟩ ?_ ⟨?_, ?_⟩ ?_ ?_ ?_ ?_ ?_ ?_ ?_ ?_ ?_ ?_ ?_ ?_ ?_
      · unfold WFs at hs ⊢
        rw [ult 4 (by omega), ult 5 (by omega), ult 6 (by omega)]
        omega
      · intro i hi
        have h1 := wp.1 i hi
        unfold WFp1 at h1 ⊢
        have hn : ∀ o, ¬ (8 + 8 * i + o = 8 + 8 * q + 6) → o < 8 → u (8 + 8 * i + o) = w (8 + 8 * i + o) := fun o ho ho2 => un _ ho (fun p hp => by omega)
        have hn0 : u (8 + 8 * i) = w (8 + 8 * i) := hn 0 (by omega) (by omega)
        rw [ult 4 (by omega), hn0, hn 1 (by omega) (by omega), hn 2 (by omega) (by omega), hn 3 (by omega) (by omega), hn 4 (by omega) (by omega), hn 5 (by omega) (by omega)]
        by_cases e2 : i = q
        · subst e2
          rw [uq, ← b7, tA]
          omega
        · rw [hn 6 (by omega) (by omega)]
          omega
      · intro j i hj hi
        rw [un (8 + 8 * j) (by omega) (fun o ho => by omega), un (8 + 8 * i) (by omega) (fun o ho => by omega)]
        exact wp.2 j i hj hi
      · exact WFc_congr n6 (by rw [ult 5 (by omega)]; exact Int.le_refl _) (by rw [ult 6 (by omega)]; exact Int.le_refl _) (fun _ p _ hp _ => ⟨p, hp, un _ (by omega) (fun o ho => by omega)⟩) (fun i h1 h2 => uc i h1 h2) wc
      · intro o ho
        have h1 := wt o ho
        rw [un (216 + 4 * o) (by omega) (fun p hp => by omega), un (216 + 4 * o + 1) (by omega) (fun p hp => by omega), ut o ho, ec o ho]
        have := a11 o (by omega)
        omega
      · exact WFe_congr (by omega) (fun i h1 h2 => uh i (by omega)) we
      · exact WFo_congr n8 (fun i h1 h2 => uh i (by omega)) wo
      · unfold BRs
        rw [ult 4 (by omega), ult 5 (by omega), ult 6 (by omega), ult 7 (by omega)]
        simp (disch := omega) only [vn]
        exact bs
      · intro i hi
        have h1 := bp i hi
        have hn : ∀ o, ¬ (8 + 8 * i + o = 8 + 8 * q + 6) → o < 8 → u (8 + 8 * i + o) = w (8 + 8 * i + o) := fun o ho ho2 => un _ ho (fun p hp => by omega)
        have h9 : ∀ g, (vRow (vRow v 9 (upd (v.1 9) q (v.1 9 q - w (72 + 12 * k + 3)))) 34 g).1 (1 + 8) = upd (v.1 9) q (v.1 9 q - w (72 + 12 * k + 3)) := fun g => by rw [vRow_ne _ _ (by omega), show 1 + 8 = 9 from rfl, vRow_eq]
        have hn0 : u (8 + 8 * i) = w (8 + 8 * i) := hn 0 (by omega) (by omega)
        rw [h9, vn _ _ (1 + 2) (by omega) (by omega), vn _ _ (1 + 3) (by omega) (by omega), vn _ _ (1 + 4) (by omega) (by omega), vn _ _ (1 + 5) (by omega) (by omega), vn _ _ (1 + 6) (by omega) (by omega), vn _ _ (1 + 7) (by omega) (by omega), hn0, hn 1 (by omega) (by omega), hn 2 (by omega) (by omega), hn 3 (by omega) (by omega), hn 4 (by omega) (by omega), hn 5 (by omega) (by omega)]
        refine ⟨h1.1, h1.2.1, h1.2.2.1, h1.2.2.2.1, h1.2.2.2.2.1, h1.2.2.2.2.2.1, ?_⟩
        by_cases e2 : i = q
        · subst e2
          rw [upd_eq, uq, b7]
        · rw [upd_ne e2, hn 6 (by omega) (by omega)]
          exact h1.2.2.2.2.2.2
      · exact BRc_congr n6 (fun o h1 h2 => vn _ _ _ (by omega) (by omega)) (fun i h1 h2 => uc i h1 h2) bc
      · intro o ho
        have h1 := bt o ho
        have h34 : ∀ f, (vRow (vRow v 9 f) 34 (lp (fun o w => upd w o (w o + v.1 (19 + k) o)) nt 0 (v.1 34))).1 (1 + 33) o = v.1 34 o + v.1 (19 + k) o := fun f => by
          rw [show 1 + 33 = 34 from rfl, vRow_eq, lp_add, if_pos ho]
        rw [h34, vn _ _ (1 + 31) (by omega) (by omega), vn _ _ (1 + 32) (by omega) (by omega), un (216 + 4 * o) (by omega) (fun p hp => by omega), un (216 + 4 * o + 1) (by omega) (fun p hp => by omega), ut o ho]
        refine ⟨h1.1, h1.2.1, ?_⟩
        rw [show v.1 34 o = _ from h1.2.2]
        have h2 := (bc k hk).2.2.2.2.2.2 o (by omega)
        rw [show v.1 (19 + k) o = _ from h2]
      · exact BRe_congr (fun o h1 h2 => vn _ _ _ (by omega) (by omega)) (fun i h1 h2 => uh i (by omega)) be
      · exact BRo_congr n8 (fun o h1 h2 => vn _ _ _ (by omega) (by omega)) (fun i h1 h2 => uh i (by omega)) bo
      · exact chars_congr (vn _ _ _ (by omega) (by omega)) bx
      · rw [vn _ _ 1 (by omega) (by omega)]
        exact bk.1
      · intro o ho
        have h1 := bk.2 o ho
        rw [vn _ _ 35 (by omega) (by omega), ut o ho, ec o ho, sI_congr (g := fun i => prt w i o) fun i hi => hprt i o hi (by omega), hprt k o hk (by omega)]
        refine ⟨h1.1, ?_⟩
        have h2 : (w (216 + 4 * o + 2)).toInt + sI (fun i => prt w i o) nc ≤ (v.1 35 o).toInt := h1.2
        omega
    · refine ⟨?_, fun _ => ⟨?_, Or.inr (if_neg hp)⟩, fun h => absurd h (by show ¬ (if _ then _ else _) = _; rw [if_neg hp]; exact q2)⟩
      · simp (disch := omega) only [p_X1_removeUnpaidClaim_93, p_X1_removeUnpaidClaim_85, p_X1_removeUnpaidClaim_69, p_X1_removeUnpaidClaim_64, p_X1_removeUnpaidClaim_8, p_X1_removeUnpaidClaim_0, p_X1_removeUnpaidClaim, pp, pf', b5, hp, vi_n, cl_n, Nat.reduceAdd, li_0, li_1, li_2, li_3, li_4, li_5, li_6, li_7, li_8, li_9, li_10, li_11, li_12, li_29, li_30, li_32, li_33, li_35, li_42, li_43, li_45, li_47, li_48, li_50, li_57, li_58, li_59, li_60, li_61, li_63, li_64, li_67, li_68, li_72, li_78, li_79, li_80, li_97, li_99, li_100, li_101, li_102, li_103, li_105, li_108, li_109, li_110, li_111, li_112, li_114, li_115, li_116, li_117, li_118, li_119, li_120, li_121, li_126, li_216, li_232, li_240, li_264, li_300, li_1000, li_1000000, li_2147483647, reduceIte, if_true, if_false, true_and, and_true, false_and, and_false, and_self, not_true_eq_false, not_false_eq_true, true_implies, false_implies, implies_true, forall_const, Bool.false_eq_true, el_l, el_r, Sum.inl.injEq, reduceCtorEq, forall_eq, forall_eq']
      · simp (disch := omega) only [f_X1_removeUnpaidClaim_93, f_X1_removeUnpaidClaim_85, f_X1_removeUnpaidClaim_69, f_X1_removeUnpaidClaim_64, f_X1_removeUnpaidClaim_8, f_X1_removeUnpaidClaim_0, f_X1_removeUnpaidClaim, pf', b5, hp, cl_n, Nat.reduceAdd, li_0, li_1, li_2, li_3, li_4, li_5, li_6, li_7, li_8, li_9, li_10, li_11, li_12, li_29, li_30, li_32, li_33, li_35, li_42, li_43, li_45, li_47, li_48, li_50, li_57, li_58, li_59, li_60, li_61, li_63, li_64, li_67, li_68, li_72, li_78, li_79, li_80, li_97, li_99, li_100, li_101, li_102, li_103, li_105, li_108, li_109, li_110, li_111, li_112, li_114, li_115, li_116, li_117, li_118, li_119, li_120, li_121, li_126, li_216, li_232, li_240, li_264, li_300, li_1000, li_1000000, li_2147483647, reduceIte, if_true, if_false, true_and, and_true, false_and, and_false, and_self, not_true_eq_false, not_false_eq_true, true_implies, false_implies, implies_true, forall_const, Bool.false_eq_true, el_l, el_r, Sum.inl.injEq, reduceCtorEq, forall_eq, forall_eq', Option.elim, z2]
