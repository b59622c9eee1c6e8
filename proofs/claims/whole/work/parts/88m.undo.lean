/-! undo, save, restore, the two readings of the script's end -/
theorem BRx.cnt {B : Nat} {v : gV} {b : Nat} {w : Nat → Int32} : BRx B v b w → v.1 (b + 1) 1 = w 0 := fun ⟨_, _, _, _, h⟩ => h.2.2.2.2.2.2.2.1.1.trans h.1.1.symm
/-- the class' state comes from cells at b2, the reference's from a row w -/
theorem J_back {B : Nat} {v v2 uf : gV} {b2 : Nat} {w : Nat → Int32} (hJ : J B v) (hw : BRx B v b2 w) (hrel : ∀ q k, rel q k → v2.1 (1 + q) k = v.1 (b2 + q) k) (hne : ∀ j, j < 1 ∨ 51 ≤ j → ¬ j = 101 → v2.1 j = v.1 j) (une : ∀ j, ¬ j = 559 → ¬ j = 560 → uf.1 j = v2.1 j) (u559 : ∀ k, ¬ k = 6 → ¬ k = 7 → uf.1 559 k = v.1 559 k) (u560 : ∀ i, i < 300 → uf.1 560 i = w i) (hh : JH B uf) : J (B + 64) uf := by
  have hb : BRx B uf 1 (uf.1 560) := by
    refine BRx.w (w := w) u560 (hw.copy fun q k hr => ?_)
    rw [une (1 + q) (by unfold rel at hr; omega) (by unfold rel at hr; omega)]
    exact hrel q k hr
  have hg : ∀ j, j < 1 ∨ 51 ≤ j → ¬ j = 101 → ¬ j = 559 → ¬ j = 560 → uf.1 j = v.1 j := fun j a b c d => (une j c d).trans (hne j a b)
  refine J_same (B := B) (v := v) (by omega) hJ (hb.mono (by omega)) (hh.mono (by omega)) ?_ ?_ ?_ ?_ ?_ ?_ ?_
  · exact hg 0 (by omega) (by omega) (by omega) (by omega)
  · exact fun j a b => hg j (by omega) (by omega) (by omega) (by omega)
  · exact fun j a b => hg j (by omega) (by omega) (by omega) (by omega)
  · exact fun k hk => u559 k (by omega) (by omega)
  · exact hg 562 (by omega) (by omega) (by omega) (by omega)
  · exact hg 566 (by omega) (by omega) (by omega) (by omega)
  · exact hg 567 (by omega) (by omega) (by omega) (by omega)
theorem n300 (e : Nat) : (300 : Int32) * nI e = nI (300 * e) := by
  rw [li_300]
  exact nI_mul 300 e
theorem A_undo {B : Nat} : Ans f_X11_undo p_X11_undo f_X12_undo p_X12_undo eS oy1 (any Int32) B := by
  intro v hJ
  obtain ⟨o, d, ho, hd, h1, h2, h7, hh⟩ := hJ.2.1
  by_cases hd0 : d = 0
  · subst hd0
    have e0 : v.1 101 2 = 0 := h2
    have hs : f_X3_stepBack 1 v = (Sum.inr "java/lang/IllegalStateException", v) := by
      show f_X3_stepBack_0 1 v = _
      rw [f_X3_stepBack_0, if_pos e0]
    have hsp : p_X3_stepBack 1 v := by
      show p_X3_stepBack_0 1 v
      rw [p_X3_stepBack_0]
      exact ⟨fun _ => trivial, fun h => absurd e0 h⟩
    have hf : f_X11_undo v = (Sum.inr "java/lang/IllegalStateException", v) := by
      show f_X11_undo_0 v = _
      rw [f_X11_undo_0, hs]
      rfl
    have hp : p_X11_undo v := by
      show p_X11_undo_0 v
      rw [p_X11_undo_0, hs]
      exact ⟨hsp, fun r hr => by cases hr⟩
    rw [hf]
    refine ⟨hp, Or.inl ⟨nI 1, rfl, n10, rfl, fun u hu => ?_⟩⟩
    have hu : u.1 = v.1 := hu
    have u7 : u.1 559 7 = nI 0 := by rw [hu]; exact h7
    have hck := F_checked (nI 0) u
    rw [if_pos rfl] at hck
    have l0 : nI 0 ≤ 0 := le00
    have l1 : ¬ nI 1 ≤ 0 := le10
    have hm : p_X12_undo u ∧ (f_X12_undo u).2 = thr u (nI 1) := by
      constructor
      · show p_X12_undo_0 u
        rw [p_X12_undo_0, u7]
        refine ⟨fun _ => ?_, fun h => absurd l0 h⟩
        rw [p_X12_undo_13, show (0 : Int32) = nI 0 from rfl, hck]
        refine ⟨P_checked _ _, ?_⟩
        rw [p_X12_undo_16]
        exact ⟨fun h => absurd h l1, fun _ => trivial⟩
      · show (f_X12_undo_0 u).2 = _
        rw [f_X12_undo_0, u7, if_pos l0, f_X12_undo_13, show (0 : Int32) = nI 0 from rfl, hck, f_X12_undo_16, if_neg l1]
    rw [hm.2]
    exact ⟨hm.1, thr_6 u _, ((hJ.one hu).sc (thr_Th u _).sc).mono (by omega)⟩
  · obtain ⟨e, rfl⟩ : ∃ e, d = e + 1 := ⟨d - 1, by omega⟩
    have e0 : ¬ v.1 101 2 = 0 := by
      rw [h2]
      intro h
      have h : nI (e + 1) = nI 0 := h
      rw [eq_n (by omega) (by omega)] at h
      omega
    have esub : nI (e + 1) - (1 : Int32) = nI e := by
      rw [li_1, sub_n (by omega)]
      rfl
    have w1 : vM v 101 2 (v.1 101 2 - (1 : Int32)) = vRow v 101 (upd (v.1 101) 2 (nI e)) := by rw [h2, esub, vM_rw]
    have hsl := hh e (by omega)
    have hlt : (o + e) % 9 < 9 := Nat.mod_lt _ (by decide)
    have hx : chars (vRow v 101 (upd (v.1 101) 2 (nI e))) (103 + 50 * ((o + e) % 9)) := by
      refine BRx.chars (B := B) (w := fun k => v.1 563 (300 * e + k)) (hsl.same fun j a b => vRow_ne _ _ (by omega))
    have a1 : (vRow v 101 (upd (v.1 101) 2 (nI e))).1 101 = upd (v.1 101) 2 (nI e) := vRow_eq _ _ _
    obtain ⟨b1, b2, b3, b4⟩ := K_bringBack (vRow v 101 (upd (v.1 101) 2 (nI e))) (o := o) (d := e) ho (by omega) (by rw [a1, upd_ne (by omega)]; exact h1) (by rw [a1, upd_eq]) hx
    have b5 : (f_X3_bringBack 1 (vRow v 101 (upd (v.1 101) 2 (nI e)))).1 101 = upd (v.1 101) 2 (nI e) := by rw [b3 101 (by omega), a1]
    have b6 : ∀ j, j < 1 ∨ 51 ≤ j → ¬ j = 101 → (f_X3_bringBack 1 (vRow v 101 (upd (v.1 101) 2 (nI e)))).1 j = v.1 j := fun j a b => by rw [b3 j a, vRow_ne _ _ b]
    have b7 : ∀ q k, rel q k → (f_X3_bringBack 1 (vRow v 101 (upd (v.1 101) 2 (nI e)))).1 (1 + q) k = v.1 (103 + 50 * ((o + e) % 9) + q) k := fun q k hr => by rw [b4 q k hr, vRow_ne _ _ (by omega)]
    have hs : f_X3_stepBack 1 v = (Sum.inl (nI e), f_X3_bringBack 1 (vRow v 101 (upd (v.1 101) 2 (nI e)))) := by
      show f_X3_stepBack_0 1 v = _
      rw [f_X3_stepBack_0, if_neg e0, w1, f_X3_stepBack_27, f_X3_stepBack_32, b5, upd_eq]
    have hsp : p_X3_stepBack 1 v := by
      show p_X3_stepBack_0 1 v
      rw [p_X3_stepBack_0, w1]
      refine ⟨fun h => absurd h e0, fun _ => ?_⟩
      rw [p_X3_stepBack_27]
      exact ⟨b1, by rw [p_X3_stepBack_32]; trivial⟩
    clear b3 b4
    generalize f_X3_bringBack 1 (vRow v 101 (upd (v.1 101) 2 (nI e))) = v2 at hs b2 b5 b6 b7
    have hf : f_X11_undo v = (Sum.inl (nI e), v2) := by
      show f_X11_undo_0 v = _
      rw [f_X11_undo_0, hs]
      rfl
    have hp : p_X11_undo v := by
      show p_X11_undo_0 v
      rw [p_X11_undo_0, hs]
      exact ⟨hsp, fun r hr => by rw [p_X11_undo_11]; trivial⟩
    rw [hf]
    refine ⟨hp, Or.inr ⟨nI e, trivial, rfl, fun u hu => ?_⟩⟩
    have hu : u.1 = v2.1 := hu
    have u559 : u.1 559 = v.1 559 := by rw [hu, b6 559 (by omega) (by omega)]
    have u7 : u.1 559 7 = nI (e + 1) := by rw [u559]; exact h7
    have hck := F_checked (nI 1) u
    rw [if_neg n10] at hck
    have l0 : nI 0 ≤ 0 := le00
    have l1 : ¬ nI (e + 1) ≤ 0 := by
      intro h
      have h : nI (e + 1) ≤ nI 0 := h
      rw [le_n (by omega) (by omega)] at h
      omega
    have t7 : (thr u (nI 0)).1 559 7 = nI (e + 1) := by
      rw [(thr_Th u (nI 0)).2.1, upd_ne (by omega)]
      exact u7
    have w2 : vM (thr u (nI 0)) 559 7 ((thr u (nI 0)).1 559 7 - (1 : Int32)) = vRow (thr u (nI 0)) 559 (upd ((thr u (nI 0)).1 559) 7 (nI e)) := by rw [t7, esub, vM_rw]
    have c559 : (vRow (thr u (nI 0)) 559 (upd ((thr u (nI 0)).1 559) 7 (nI e))).1 559 = upd (upd (v.1 559) 6 (nI 0)) 7 (nI e) := by rw [vRow_eq, (thr_Th u (nI 0)).2.1, u559]
    have cne : ∀ j, ¬ j = 559 → (vRow (thr u (nI 0)) 559 (upd ((thr u (nI 0)).1 559) 7 (nI e))).1 j = v2.1 j := fun j h => by rw [vRow_ne _ _ h, thr_1 _ _ h, hu]
    have c2 : (vRow (thr u (nI 0)) 559 (upd ((thr u (nI 0)).1 559) 7 (nI e))).2 = u.2 := rfl
    have hm0 : (p_X12_undo_31 (vRow (thr u (nI 0)) 559 (upd ((thr u (nI 0)).1 559) 7 (nI e))) → p_X12_undo u) ∧ f_X12_undo u = f_X12_undo_31 (vRow (thr u (nI 0)) 559 (upd ((thr u (nI 0)).1 559) 7 (nI e))) := by
      constructor
      · intro h
        show p_X12_undo_0 u
        rw [p_X12_undo_0, u7]
        refine ⟨fun h => absurd h l1, fun _ => ?_⟩
        rw [p_X12_undo_13, show (1 : Int32) = nI 1 from rfl, hck]
        refine ⟨P_checked _ _, ?_⟩
        rw [p_X12_undo_16, w2]
        exact ⟨fun _ => h, fun h => absurd l0 h⟩
      · show f_X12_undo_0 u = _
        rw [f_X12_undo_0, u7, if_neg l1, f_X12_undo_13, show (1 : Int32) = nI 1 from rfl, hck, f_X12_undo_16, if_pos l0, w2]
    generalize vRow (thr u (nI 0)) 559 (upd ((thr u (nI 0)).1 559) 7 (nI e)) = uc at hm0 c559 cne c2
    have uc7 : uc.1 559 7 = nI e := by rw [c559, upd_eq]
    have hc := F_copy (j0 := 563) (N0 := 2400) (j2 := 560) (N2 := 300) (a := 300 * e) (c := 0) uc (by omega) (by omega) (by omega) (by omega) (by omega)
    have hcp := P_copy (j0 := 563) (N0 := 2400) (j2 := 560) (N2 := 300) (a := 300 * e) (c := 0) uc (by omega) (by omega) (by omega) (by omega) (by omega)
    have hm1 : p_X12_undo u := hm0.1 (by
      rw [p_X12_undo_31, uc7, n300]
      exact ⟨hcp, by rw [p_X12_undo_51]; trivial⟩)
    have hm2 : f_X12_undo u = (nI e, vRow uc 560 (cp3 (uc.1 563) (uc.1 560) (300 * e) 0)) := by
      rw [hm0.2, f_X12_undo_31, uc7, n300, show (0 : Int32) = nI 0 from rfl, hc, f_X12_undo_51, vRow_ne _ _ (show ¬ 559 = 560 by omega), uc7]
    have d559 : (vRow uc 560 (cp3 (uc.1 563) (uc.1 560) (300 * e) 0)).1 559 = upd (upd (v.1 559) 6 (nI 0)) 7 (nI e) := by rw [vRow_ne _ _ (by omega), c559]
    have d560 : ∀ i, i < 300 → (vRow uc 560 (cp3 (uc.1 563) (uc.1 560) (300 * e) 0)).1 560 i = v.1 563 (300 * e + i) := fun i hi => by
      have h := cp3_in (f := uc.1 563) (g := uc.1 560) (a := 300 * e) (c := 0) hi
      rw [Nat.zero_add] at h
      rw [vRow_eq, h, cne 563 (by omega), b6 563 (by omega) (by omega)]
    have dne : ∀ j, ¬ j = 559 → ¬ j = 560 → (vRow uc 560 (cp3 (uc.1 563) (uc.1 560) (300 * e) 0)).1 j = v2.1 j := fun j a b => by rw [vRow_ne _ _ b, cne j a]
    have d2 : (vRow uc 560 (cp3 (uc.1 563) (uc.1 560) (300 * e) 0)).2 = u.2 := c2
    rw [hm2]
    generalize vRow uc 560 (cp3 (uc.1 563) (uc.1 560) (300 * e) 0) = uf at d559 d560 dne d2
    refine ⟨hm1, ?_, rfl, d2, ?_⟩
    · show uf.1 559 6 = nI 0
      rw [d559, upd_ne (by omega), upd_eq]
    refine J_back hJ hsl b7 b6 dne (fun k a b => by rw [d559, upd_ne b, upd_ne a]) d560 ⟨o, e, ho, by omega, ?_, ?_, ?_, fun i hi => ?_⟩
    · rw [dne 101 (by omega) (by omega), b5, upd_ne (by omega)]
      exact h1
    · rw [dne 101 (by omega) (by omega), b5, upd_eq]
    · rw [d559, upd_eq]
    · rw [dne 563 (by omega) (by omega), b6 563 (by omega) (by omega)]
      have hlt2 : (o + i) % 9 < 9 := Nat.mod_lt _ (by decide)
      exact (hh i (by omega)).same fun j a b => by rw [dne j (by omega) (by omega), b6 j (by omega) (by omega)]
theorem A_restore {B : Nat} : Ans f_X11_restore p_X11_restore f_X12_restore p_X12_restore eS oy1 (any Int32) B := by
  intro v hJ
  have l0 : nI 0 ≤ 0 := le00
  have l1 : ¬ nI 1 ≤ 0 := le10
  rcases hJ.2.2.1 with ⟨s1, s2⟩ | ⟨s1, s2, s3⟩
  · have e0 : v.1 0 5 = 0 := s1
    have hf : f_X11_restore v = (Sum.inr "java/lang/IllegalStateException", v) := by
      show f_X11_restore_0 v = _
      rw [f_X11_restore_0, if_pos e0]
    have hp : p_X11_restore v := by
      show p_X11_restore_0 v
      rw [p_X11_restore_0]
      exact ⟨fun _ => trivial, fun h => absurd e0 h⟩
    rw [hf]
    refine ⟨hp, Or.inl ⟨nI 1, rfl, n10, rfl, fun u hu => ?_⟩⟩
    have hu : u.1 = v.1 := hu
    have u7 : u.1 559 10 = nI 0 := by rw [hu]; exact s2
    have hck := F_checked (nI 0) u
    rw [if_pos rfl] at hck
    have hm : p_X12_restore u ∧ (f_X12_restore u).2 = thr u (nI 1) := by
      constructor
      · show p_X12_restore_0 u
        rw [p_X12_restore_0, u7, hck]
        refine ⟨P_checked _ _, ?_⟩
        rw [p_X12_restore_8]
        exact ⟨fun h => absurd h l1, fun _ => trivial⟩
      · show (f_X12_restore_0 u).2 = _
        rw [f_X12_restore_0, u7, hck, f_X12_restore_8, if_neg l1]
    rw [hm.2]
    exact ⟨hm.1, thr_6 u _, ((hJ.one hu).sc (thr_Th u _).sc).mono (by omega)⟩
  · have e0 : ¬ v.1 0 5 = 0 := by
      rw [s1]
      exact n10
    obtain ⟨b1, b2, b3, b4⟩ := K_copyFrom v (b := 1) (b2 := 51) (by omega) s3.chars
    have hg : f_X3_forget (f_X1_copyFrom 1 51 v) = vRow (f_X1_copyFrom 1 51 v) 101 (upd ((f_X1_copyFrom 1 51 v).1 101) 2 (nI 0)) := rfl
    have hg2 : p_X3_forget (f_X1_copyFrom 1 51 v) := by
      show p_X3_forget_0 (f_X1_copyFrom 1 51 v)
      rw [p_X3_forget_0, p_X3_forget_5]
      trivial
    have hr : ∀ w : gV, f_X11_restore_36 w = (Sum.inl (w.1 (1 + 1) 1), w) := fun w => rfl
    have hf0 : f_X11_restore v = (Sum.inl ((vRow (f_X1_copyFrom 1 51 v) 101 (upd ((f_X1_copyFrom 1 51 v).1 101) 2 (nI 0))).1 (1 + 1) 1), vRow (f_X1_copyFrom 1 51 v) 101 (upd ((f_X1_copyFrom 1 51 v).1 101) 2 (nI 0))) := by
      show f_X11_restore_0 v = _
      rw [f_X11_restore_0, if_neg e0, f_X11_restore_29, hg, hr]
    have hp : p_X11_restore v := by
      show p_X11_restore_0 v
      rw [p_X11_restore_0]
      refine ⟨fun h => absurd h e0, fun _ => ⟨b1, ?_⟩⟩
      rw [p_X11_restore_29]
      exact ⟨hg2, by rw [p_X11_restore_36]; trivial⟩
    have c101 : (vRow (f_X1_copyFrom 1 51 v) 101 (upd ((f_X1_copyFrom 1 51 v).1 101) 2 (nI 0))).1 101 = upd (v.1 101) 2 (nI 0) := by rw [vRow_eq, b3 101 (by omega)]
    have b6 : ∀ j, j < 1 ∨ 51 ≤ j → ¬ j = 101 → (vRow (f_X1_copyFrom 1 51 v) 101 (upd ((f_X1_copyFrom 1 51 v).1 101) 2 (nI 0))).1 j = v.1 j := fun j a b => by rw [vRow_ne _ _ b, b3 j (by omega)]
    have b7 : ∀ q k, rel q k → (vRow (f_X1_copyFrom 1 51 v) 101 (upd ((f_X1_copyFrom 1 51 v).1 101) 2 (nI 0))).1 (1 + q) k = v.1 (51 + q) k := fun q k hr => by rw [vRow_ne _ _ (by unfold rel at hr; omega), b4 q k hr]
    clear hg hg2 b1 b2 b3 b4
    generalize vRow (f_X1_copyFrom 1 51 v) 101 (upd ((f_X1_copyFrom 1 51 v).1 101) 2 (nI 0)) = v2 at hf0 c101 b6 b7
    have hcnt : v2.1 (1 + 1) 1 = v.1 562 0 := (b7 1 1 (by unfold rel; omega)).trans s3.cnt
    rw [hf0]
    refine ⟨hp, Or.inr ⟨_, trivial, rfl, fun u hu => ?_⟩⟩
    have hu : u.1 = v2.1 := hu
    have u559 : u.1 559 = v.1 559 := by rw [hu, b6 559 (by omega) (by omega)]
    have u7 : u.1 559 10 = nI 1 := by rw [u559]; exact s2
    have hck := F_checked (nI 1) u
    rw [if_neg n10] at hck
    have hc := F_copy (j0 := 562) (N0 := 300) (j2 := 560) (N2 := 300) (a := 0) (c := 0) (thr u (nI 0)) (by omega) (by omega) (by omega) (by omega) (by omega)
    have hcp := P_copy (j0 := 562) (N0 := 300) (j2 := 560) (N2 := 300) (a := 0) (c := 0) (thr u (nI 0)) (by omega) (by omega) (by omega) (by omega) (by omega)
    have hm1 : p_X12_restore u := by
      show p_X12_restore_0 u
      rw [p_X12_restore_0, u7, hck]
      refine ⟨P_checked _ _, ?_⟩
      rw [p_X12_restore_8]
      refine ⟨fun _ => ⟨hcp, ?_⟩, fun h => absurd l0 h⟩
      rw [p_X12_restore_26, p_X12_restore_31]
      trivial
    have hm2 : f_X12_restore u = f_X12_restore_31 (vRow (vRow (thr u (nI 0)) 560 (cp3 ((thr u (nI 0)).1 562) ((thr u (nI 0)).1 560) 0 0)) 559 (upd ((vRow (thr u (nI 0)) 560 (cp3 ((thr u (nI 0)).1 562) ((thr u (nI 0)).1 560) 0 0)).1 559) 7 (nI 0))) := by
      show f_X12_restore_0 u = _
      rw [f_X12_restore_0, u7, hck, f_X12_restore_8, if_pos l0, show (0 : Int32) = nI 0 from rfl, hc, f_X12_restore_26, vM_rw, show (0 : Int32) = nI 0 from rfl]
    have d559 : (vRow (vRow (thr u (nI 0)) 560 (cp3 ((thr u (nI 0)).1 562) ((thr u (nI 0)).1 560) 0 0)) 559 (upd ((vRow (thr u (nI 0)) 560 (cp3 ((thr u (nI 0)).1 562) ((thr u (nI 0)).1 560) 0 0)).1 559) 7 (nI 0))).1 559 = upd (upd (v.1 559) 6 (nI 0)) 7 (nI 0) := by rw [vRow_eq, vRow_ne _ _ (by omega), (thr_Th u (nI 0)).2.1, u559]
    have d560 : ∀ i, i < 300 → (vRow (vRow (thr u (nI 0)) 560 (cp3 ((thr u (nI 0)).1 562) ((thr u (nI 0)).1 560) 0 0)) 559 (upd ((vRow (thr u (nI 0)) 560 (cp3 ((thr u (nI 0)).1 562) ((thr u (nI 0)).1 560) 0 0)).1 559) 7 (nI 0))).1 560 i = v.1 562 i := fun i hi => by
      have h := cp3_in (f := (thr u (nI 0)).1 562) (g := (thr u (nI 0)).1 560) (a := 0) (c := 0) hi
      rw [Nat.zero_add] at h
      rw [vRow_ne _ _ (by omega), vRow_eq, h, thr_1 _ _ (by omega), hu, b6 562 (by omega) (by omega)]
    have dne : ∀ j, ¬ j = 559 → ¬ j = 560 → (vRow (vRow (thr u (nI 0)) 560 (cp3 ((thr u (nI 0)).1 562) ((thr u (nI 0)).1 560) 0 0)) 559 (upd ((vRow (thr u (nI 0)) 560 (cp3 ((thr u (nI 0)).1 562) ((thr u (nI 0)).1 560) 0 0)).1 559) 7 (nI 0))).1 j = v2.1 j := fun j a b => by rw [vRow_ne _ _ a, vRow_ne _ _ b, thr_1 _ _ a, hu]
    have d2 : (vRow (vRow (thr u (nI 0)) 560 (cp3 ((thr u (nI 0)).1 562) ((thr u (nI 0)).1 560) 0 0)) 559 (upd ((vRow (thr u (nI 0)) 560 (cp3 ((thr u (nI 0)).1 562) ((thr u (nI 0)).1 560) 0 0)).1 559) 7 (nI 0))).2 = u.2 := rfl
    rw [hm2]
    clear hc hcp hm2
    generalize vRow (vRow (thr u (nI 0)) 560 (cp3 ((thr u (nI 0)).1 562) ((thr u (nI 0)).1 560) 0 0)) 559 (upd ((vRow (thr u (nI 0)) 560 (cp3 ((thr u (nI 0)).1 562) ((thr u (nI 0)).1 560) 0 0)).1 559) 7 (nI 0)) = uf at d559 d560 dne d2
    have hend : f_X12_restore_31 uf = (uf.1 560 0, uf) := rfl
    rw [hend]
    refine ⟨hm1, ?_, ?_, d2, ?_⟩
    · show uf.1 559 6 = nI 0
      rw [d559, upd_ne (by omega), upd_eq]
    · show uf.1 560 0 = v2.1 (1 + 1) 1
      rw [d560 0 (by omega), hcnt]
    obtain ⟨o, d, ho, hd, h1, h2, h7, hh⟩ := hJ.2.1
    refine J_back hJ s3 b7 b6 dne (fun k a b => by rw [d559, upd_ne b, upd_ne a]) d560 ⟨o, 0, ho, by omega, ?_, ?_, ?_, fun i hi => absurd hi (by omega)⟩
    · rw [dne 101 (by omega) (by omega), c101, upd_ne (by omega)]
      exact h1
    · rw [dne 101 (by omega) (by omega), c101, upd_eq]
    · rw [d559, upd_eq]
theorem A_save {B : Nat} (v : gV) (hJ : J B v) : p_X11_save v ∧ ∀ u : gV, u.1 = (f_X11_save v).2.1 → p_X12_save u ∧ (f_X12_save u).1 = (f_X11_save v).1 ∧ J (B + 64) (f_X12_save u).2 := by
  obtain ⟨b1, b2, b3, b4⟩ := K_copyFrom v (b := 51) (b2 := 1) (by omega) hJ.1.chars
  have hf : f_X11_save v = ((vRow (f_X1_copyFrom 51 1 v) 0 (upd ((f_X1_copyFrom 51 1 v).1 0) 5 (nI 1))).1 (1 + 1) 1, vRow (f_X1_copyFrom 51 1 v) 0 (upd ((f_X1_copyFrom 51 1 v).1 0) 5 (nI 1))) := by
    show f_X11_save_0 v = _
    rw [f_X11_save_0, f_X11_save_11, f_X11_save_16, vM_rw, li_1]
  have hp : p_X11_save v := by
    show p_X11_save_0 v
    rw [p_X11_save_0]
    refine ⟨b1, ?_⟩
    rw [p_X11_save_11, p_X11_save_16]
    trivial
  have c0 : (vRow (f_X1_copyFrom 51 1 v) 0 (upd ((f_X1_copyFrom 51 1 v).1 0) 5 (nI 1))).1 0 = upd (v.1 0) 5 (nI 1) := by rw [vRow_eq, b3 0 (by omega)]
  have b6 : ∀ j, ¬ j = 0 → j < 51 ∨ 101 ≤ j → (vRow (f_X1_copyFrom 51 1 v) 0 (upd ((f_X1_copyFrom 51 1 v).1 0) 5 (nI 1))).1 j = v.1 j := fun j a b => by rw [vRow_ne _ _ a, b3 j (by omega)]
  have b7 : ∀ q k, rel q k → (vRow (f_X1_copyFrom 51 1 v) 0 (upd ((f_X1_copyFrom 51 1 v).1 0) 5 (nI 1))).1 (51 + q) k = v.1 (1 + q) k := fun q k hr => by rw [vRow_ne _ _ (by unfold rel at hr; omega), b4 q k hr]
  clear b1 b2 b3 b4
  generalize vRow (f_X1_copyFrom 51 1 v) 0 (upd ((f_X1_copyFrom 51 1 v).1 0) 5 (nI 1)) = v2 at hf c0 b6 b7
  rw [hf]
  refine ⟨hp, fun u hu => ?_⟩
  have hu : u.1 = v2.1 := hu
  have hc := F_copy (j0 := 560) (N0 := 300) (j2 := 562) (N2 := 300) (a := 0) (c := 0) (thr u (nI 0)) (by omega) (by omega) (by omega) (by omega) (by omega)
  have hcp := P_copy (j0 := 560) (N0 := 300) (j2 := 562) (N2 := 300) (a := 0) (c := 0) (thr u (nI 0)) (by omega) (by omega) (by omega) (by omega) (by omega)
  have ht : vM u 559 6 (0 : Int32) = thr u (nI 0) := rfl
  have hm1 : p_X12_save u := by
    show p_X12_save_0 u
    rw [p_X12_save_0, p_X12_save_5, ht]
    refine ⟨hcp, ?_⟩
    rw [p_X12_save_18, p_X12_save_23]
    trivial
  have hm2 : f_X12_save u = f_X12_save_23 (vRow (vRow (thr u (nI 0)) 562 (cp3 ((thr u (nI 0)).1 560) ((thr u (nI 0)).1 562) 0 0)) 559 (upd ((vRow (thr u (nI 0)) 562 (cp3 ((thr u (nI 0)).1 560) ((thr u (nI 0)).1 562) 0 0)).1 559) 10 (nI 1))) := by
    show f_X12_save_0 u = _
    rw [f_X12_save_0, ht, f_X12_save_5, show (0 : Int32) = nI 0 from rfl, hc, f_X12_save_18, vM_rw, li_1]
  have d559 : (vRow (vRow (thr u (nI 0)) 562 (cp3 ((thr u (nI 0)).1 560) ((thr u (nI 0)).1 562) 0 0)) 559 (upd ((vRow (thr u (nI 0)) 562 (cp3 ((thr u (nI 0)).1 560) ((thr u (nI 0)).1 562) 0 0)).1 559) 10 (nI 1))).1 559 = upd (upd (v.1 559) 6 (nI 0)) 10 (nI 1) := by rw [vRow_eq, vRow_ne _ _ (by omega), (thr_Th u (nI 0)).2.1, hu, b6 559 (by omega) (by omega)]
  have d562 : ∀ i, i < 300 → (vRow (vRow (thr u (nI 0)) 562 (cp3 ((thr u (nI 0)).1 560) ((thr u (nI 0)).1 562) 0 0)) 559 (upd ((vRow (thr u (nI 0)) 562 (cp3 ((thr u (nI 0)).1 560) ((thr u (nI 0)).1 562) 0 0)).1 559) 10 (nI 1))).1 562 i = v.1 560 i := fun i hi => by
    have h := cp3_in (f := (thr u (nI 0)).1 560) (g := (thr u (nI 0)).1 562) (a := 0) (c := 0) hi
    rw [Nat.zero_add] at h
    rw [vRow_ne _ _ (by omega), vRow_eq, h, thr_1 _ _ (by omega), hu, b6 560 (by omega) (by omega)]
  have dne : ∀ j, ¬ j = 559 → ¬ j = 562 → (vRow (vRow (thr u (nI 0)) 562 (cp3 ((thr u (nI 0)).1 560) ((thr u (nI 0)).1 562) 0 0)) 559 (upd ((vRow (thr u (nI 0)) 562 (cp3 ((thr u (nI 0)).1 560) ((thr u (nI 0)).1 562) 0 0)).1 559) 10 (nI 1))).1 j = v2.1 j := fun j a b => by rw [vRow_ne _ _ a, vRow_ne _ _ b, thr_1 _ _ a, hu]
  rw [hm2]
  clear hc hcp hm2 ht
  generalize vRow (vRow (thr u (nI 0)) 562 (cp3 ((thr u (nI 0)).1 560) ((thr u (nI 0)).1 562) 0 0)) 559 (upd ((vRow (thr u (nI 0)) 562 (cp3 ((thr u (nI 0)).1 560) ((thr u (nI 0)).1 562) 0 0)).1 559) 10 (nI 1)) = uf at d559 d562 dne
  have hend : f_X12_save_23 uf = (uf.1 560 0, uf) := rfl
  rw [hend]
  have hg : ∀ j, ¬ j = 0 → j < 51 ∨ 101 ≤ j → ¬ j = 559 → ¬ j = 562 → uf.1 j = v.1 j := fun j a b c d => (dne j c d).trans (b6 j a b)
  have g559 : ∀ k, ¬ k = 6 → ¬ k = 10 → uf.1 559 k = v.1 559 k := fun k a b => by rw [d559, upd_ne b, upd_ne a]
  have g0 : ∀ k, ¬ k = 5 → uf.1 0 k = v.1 0 k := fun k a => by rw [dne 0 (by omega) (by omega), c0, upd_ne a]
  have e560 : uf.1 560 = v.1 560 := hg 560 (by omega) (by omega) (by omega) (by omega)
  refine ⟨hm1, ?_, ?_⟩
  · show uf.1 560 0 = v2.1 (1 + 1) 1
    rw [e560, b6 (1 + 1) (by omega) (by omega)]
    exact hJ.1.cnt.symm
  obtain ⟨j1, j2, j3, j4, j5, j6⟩ := hJ
  refine J.mono (B := B) (by omega) ⟨?_, ?_, Or.inr ⟨?_, ?_, ?_⟩, ?_, ?_, ?_⟩
  · rw [e560]
    exact j1.same fun j a b => hg j (by omega) (by omega) (by omega) (by omega)
  · exact JH_same j2 (hg 101 (by omega) (by omega) (by omega) (by omega)) (g559 7 (by omega) (by omega)) (hg 563 (by omega) (by omega) (by omega) (by omega)) fun o d _ _ _ _ j a b _ => hg j (by omega) (by omega) (by omega) (by omega)
  · rw [dne 0 (by omega) (by omega), c0, upd_eq]
  · rw [d559, upd_eq]
  · refine BRx.w (w := v.1 560) d562 (j1.copy fun q k hr => ?_)
    rw [dne (51 + q) (by unfold rel at hr; omega) (by unfold rel at hr; omega)]
    exact b7 q k hr
  · unfold JT
    rw [hg 554 (by omega) (by omega) (by omega) (by omega), hg 555 (by omega) (by omega) (by omega) (by omega), hg 567 (by omega) (by omega) (by omega) (by omega), g559 16 (by omega) (by omega)]
    exact j4
  · unfold JO
    rw [hg 557 (by omega) (by omega) (by omega) (by omega), hg 558 (by omega) (by omega) (by omega) (by omega), hg 566 (by omega) (by omega) (by omega) (by omega), g559 12 (by omega) (by omega)]
    exact j5
  · unfold JE
    rw [g0 6 (by omega), g0 7 (by omega), g559 8 (by omega) (by omega), g559 9 (by omega) (by omega)]
    exact j6
/-! the two readings -/
theorem F_known (x : Int32) (v : gV) : f_X11_known x v = if 0 ≤ x then Sum.inl x else Sum.inr "java/util/NoSuchElementException" := rfl
theorem P_known (x : Int32) (v : gV) : p_X11_known x v := by
  show p_X11_known_0 x v
  rw [p_X11_known_0]
  exact ⟨fun _ => trivial, fun _ => trivial⟩
theorem K_present (x : Int32) (u : gV) : p_X12_present x u ∧ f_X12_present x u = (if x < 0 then nI 0 else x, thr u (if x < 0 then nI 1 else nI 0)) := by
  have l0 : nI 0 ≤ 0 := le00
  have l1 : ¬ nI 1 ≤ 0 := le10
  by_cases h : x < 0
  · have hck := F_checked (nI 0) u
    rw [if_pos rfl] at hck
    rw [if_pos h, if_pos h]
    constructor
    · show p_X12_present_0 x u
      rw [p_X12_present_0]
      refine ⟨fun _ => ?_, fun g => absurd h g⟩
      rw [p_X12_present_10, show (0 : Int32) = nI 0 from rfl, hck]
      refine ⟨P_checked _ _, ?_⟩
      simp only [p_X12_present_21, p_X12_present_13, p_X12_present_10, p_X12_present_0, p_X12_present, le10, false_implies, not_false_eq_true, implies_true, and_self]
    · show f_X12_present_0 x u = _
      rw [f_X12_present_0, if_pos h, f_X12_present_10, show (0 : Int32) = nI 0 from rfl, hck, f_X12_present_13, if_neg l1]
      rfl
  · have hck := F_checked (nI 1) u
    rw [if_neg n10] at hck
    rw [if_neg h, if_neg h]
    constructor
    · show p_X12_present_0 x u
      rw [p_X12_present_0]
      refine ⟨fun g => absurd g h, fun _ => ?_⟩
      rw [p_X12_present_10, show (1 : Int32) = nI 1 from rfl, hck]
      refine ⟨P_checked _ _, ?_⟩
      simp only [p_X12_present_21, p_X12_present_13, p_X12_present_10, p_X12_present_0, p_X12_present, le00, implies_true, and_self, not_true_eq_false, false_implies]
    · show f_X12_present_0 x u = _
      rw [f_X12_present_0, if_neg h, f_X12_present_10, show (1 : Int32) = nI 1 from rfl, hck, f_X12_present_13, if_pos l0]
      rfl
theorem K_read {B : Nat} (v : gV) (hJ : J B v) (x : Int32) (cf : Int32 ⊕ String) (cp : Prop) (fM : gV → Int32 × gV) (pM : gV → Prop) (hcp : cp) (hcf : cf = f_X11_known x v) (hM : ∀ u : gV, u.1 = v.1 → pM u ∧ fM u = f_X12_present x u) : cp ∧ ((∃ y, oy1 y ∧ ¬ y = nI 0 ∧ cf = Sum.inr (eN y) ∧ ∀ u : gV, u.1 = v.1 → pM u ∧ (fM u).2.1 559 6 = y ∧ J (B + 64) (fM u).2) ∨ (∃ r, any Int32 r ∧ cf = Sum.inl r ∧ ∀ u : gV, u.1 = v.1 → pM u ∧ (fM u).2.1 559 6 = nI 0 ∧ (fM u).1 = r ∧ (fM u).2.2 = u.2 ∧ J (B + 64) (fM u).2)) := by
  refine ⟨hcp, ?_⟩
  rw [hcf, F_known]
  have hJm : ∀ (u : gV) (y : Int32), u.1 = v.1 → J (B + 64) (thr u y) := fun u y hu => ((hJ.one hu).sc (thr_Th u y).sc).mono (by omega)
  by_cases h : x < 0
  · have h' : ¬ 0 ≤ x := Int32.not_le.mpr h
    rw [if_neg h']
    refine Or.inl ⟨nI 1, rfl, n10, rfl, fun u hu => ?_⟩
    obtain ⟨a, b⟩ := hM u hu
    rw [b, (K_present x u).2, if_pos h, if_pos h]
    exact ⟨a, thr_6 u _, hJm u _ hu⟩
  · have h' : 0 ≤ x := Int32.not_lt.mp h
    rw [if_pos h']
    refine Or.inr ⟨x, trivial, rfl, fun u hu => ?_⟩
    obtain ⟨a, b⟩ := hM u hu
    rw [b, (K_present x u).2, if_neg h, if_neg h]
    exact ⟨a, thr_6 u _, rfl, (thr_Th u _).1, hJm u _ hu⟩
theorem A_errorPosition {B : Nat} : Ans (fun v => (f_X11_errorPosition v, v)) p_X11_errorPosition f_X12_errorPosition p_X12_errorPosition eN oy1 (any Int32) B := by
  intro v hJ
  have j6 := hJ.2.2.2.2.2.1
  refine K_read v hJ (v.1 0 6) (f_X11_errorPosition v) (p_X11_errorPosition v) f_X12_errorPosition p_X12_errorPosition ?_ ?_ fun u hu => ?_
  · show p_X11_errorPosition_0 v
    rw [p_X11_errorPosition_0]
    exact ⟨P_known _ _, fun r _ => by rw [p_X11_errorPosition_7]; trivial⟩
  · show f_X11_errorPosition_0 v = _
    rw [f_X11_errorPosition_0]
    cases f_X11_known (v.1 0 6) v <;> rfl
  · have e : u.1 559 8 = v.1 0 6 := by rw [hu]; exact j6.symm
    constructor
    · show p_X12_errorPosition_0 u
      rw [p_X12_errorPosition_0, p_X12_errorPosition_8]
      exact ⟨(K_present _ _).1, trivial⟩
    · show f_X12_errorPosition_0 u = _
      rw [f_X12_errorPosition_0, f_X12_errorPosition_8, e]
theorem A_failedCommand {B : Nat} : Ans (fun v => (f_X11_failedCommand v, v)) p_X11_failedCommand f_X12_failedCommand p_X12_failedCommand eN oy1 (any Int32) B := by
  intro v hJ
  have j6 := hJ.2.2.2.2.2.2
  refine K_read v hJ (v.1 0 7) (f_X11_failedCommand v) (p_X11_failedCommand v) f_X12_failedCommand p_X12_failedCommand ?_ ?_ fun u hu => ?_
  · show p_X11_failedCommand_0 v
    rw [p_X11_failedCommand_0]
    exact ⟨P_known _ _, fun r _ => by rw [p_X11_failedCommand_7]; trivial⟩
  · show f_X11_failedCommand_0 v = _
    rw [f_X11_failedCommand_0]
    cases f_X11_known (v.1 0 7) v <;> rfl
  · have e : u.1 559 9 = v.1 0 7 := by rw [hu]; exact j6.symm
    constructor
    · show p_X12_failedCommand_0 u
      rw [p_X12_failedCommand_0, p_X12_failedCommand_8]
      exact ⟨(K_present _ _).1, trivial⟩
    · show f_X12_failedCommand_0 u = _
      rw [f_X12_failedCommand_0, f_X12_failedCommand_8, e]
