/-! runScript -/
theorem m1_le : ¬ (0 : Int32) ≤ (-1 : Int32) := by decide +kernel
theorem m1_lt : (-1 : Int32) < 0 := by decide +kernel
theorem P_X7_empty (v : gV) : p_X7_empty v := by
  rw [p_X7_empty, p_X7_empty_0, p_X7_empty_8]
  exact ⟨rfl, trivial⟩
theorem F_X7_empty (v : gV) : f_X7_empty v = vM v 554 3 (nI 0) := by
  rw [f_X7_empty, f_X7_empty_0, f_X7_empty_8, f_J4_setLength_d00df, li_0]
theorem nI_neg {k : Nat} (h : k < 2147483648) : ¬ nI k < 0 := fun g => by
  have := (lt_n h (by omega)).mp (show nI k < nI 0 from g)
  omega
theorem nI_pos0 {k : Nat} (h : k < 2147483648) : (0 : Int32) ≤ nI k := by
  show nI 0 ≤ nI k
  exact (le_n (by omega) h).mpr (Nat.zero_le k)
theorem A_runScript {B : Nat} (hB : B < 39000) : Ans f_X11_runScript p_X11_runScript f_X12_runScript p_X12_runScript eIns oy2 (any Int32) B := by
  intro v0 hJ0
  obtain ⟨n, hn, t1, t2, t3⟩ := hJ0.2.2.2.1
  have hTX : TX (v0.1 567) n v0 := ⟨hn, t1, fun i hi => (t3 i hi).1⟩
  obtain ⟨out, o1, -, o3, o4⟩ := Scr (v0.1 567) hn (n + 1) 0 0 (by omega) (by omega) (by omega)
  have hck0 : Ck v0 (vM v0 553 3 (0 : Int32)) := (Ck.refl v0).row 3 _
  obtain ⟨c1, c2⟩ := o3 (vM v0 553 3 (0 : Int32)) 5000 (by omega) (hTX.ck hck0) (by rw [vM_rw, vRow_eq, upd_eq, li_0])
  have e1 : nI (0 + 1) = (1 : Int32) := rfl
  rw [e1] at c1 c2
  have key : ∃ r, p_X7_countCommands v0 ∧ f_X7_countCommands v0 = r ∧ cC out 0 (vM v0 553 3 (0 : Int32)) r := by
    refine ⟨_, ?_, ?_, c2⟩
    · rw [p_X7_countCommands, p_X7_countCommands_0, p_X7_countCommands_5]
      exact c1
    · rw [f_X7_countCommands, f_X7_countCommands_0, f_X7_countCommands_5]
  clear o3 c1 c2 e1
  obtain ⟨⟨s, v⟩, kp, kf, k1, k2, k3⟩ := key
  have hck : Ck v0 v := hck0.trans k1
  have k2 : ∀ q, out = Sum.inl q → s = (-1 : Int32) ∧ v.1 553 3 = nI q := k2
  have k3 : ∀ L, out = Sum.inr L → s = nI (0 + L.length) := k3
  clear hck0 k1
  have hJ : J B v := hJ0.ck hck
  have e567 : v.1 567 = v0.1 567 := hck.2 567 (by omega) (by omega)
  have e559 : v.1 559 = v0.1 559 := hck.2 559 (by omega) (by omega)
  have hTXv : TX (v0.1 567) n v := hTX.ck hck
  have hmod : ∀ u : gV, u.1 559 = v.1 559 → u.1 567 = v.1 567 → ∃ u1 u', Pr u u1 ∧ Mk u1 u' ∧ p_X12_begin u ∧ p_X12_parse (f_X12_begin u) ∧ f_X12_parse (f_X12_begin u) = u' ∧ cM out 0 u1 u' := fun u h1 h2 => by
    obtain ⟨u1, q1, q2, q3, q4, q5, q6⟩ := PRS (T := v0.1 567) (u := u) hn (by rw [h1, e559]; exact t2) (fun i hi => by rw [h2, e567]) (fun i hi => (t3 i hi).2)
    obtain ⟨m1, m2, m3⟩ := o4 u1 5000 (by omega) q1 q2 q3
    obtain ⟨g1, g2⟩ := PAR28 u1
    obtain ⟨q7, q8⟩ := q5 (g2.mpr ⟨m1, m2⟩)
    exact ⟨u1, _, q4, m3.1, q7, q8, q6.trans g1, m3⟩
  have hrs : ∀ u, f_X12_runScript u = f_X12_runScript_8 (f_X12_parse (f_X12_begin u)) ∧ (p_X12_begin u → p_X12_parse (f_X12_begin u) → p_X12_runScript_8 (f_X12_parse (f_X12_begin u)) → p_X12_runScript u) := fun u => by
    rw [f_X12_runScript, f_X12_runScript_0, f_X12_runScript_4, p_X12_runScript, p_X12_runScript_0, p_X12_runScript_4]
    exact ⟨rfl, fun a b c => ⟨a, b, c⟩⟩
  clear o4
  cases out with
  | inl q =>
    clear o1 k3
    obtain ⟨a1, a2⟩ := k2 q rfl
    subst a1
    have hf : f_X11_runScript v0 = (Sum.inr "java/lang/IllegalArgumentException", vM (vM v 0 6 (nI q)) 554 3 (nI 0)) := by
      rw [f_X11_runScript, f_X11_runScript_0, kf]
      show f_X11_runScript_7 (-1) v = _
      rw [f_X11_runScript_7, if_neg m1_le, f_X11_runScript_23, a2, F_X7_empty, f_X11_runScript_30]
    have hp : p_X11_runScript v0 := by
      rw [p_X11_runScript, p_X11_runScript_0, kf]
      refine ⟨kp, ?_⟩
      show p_X11_runScript_7 (-1) v
      rw [p_X11_runScript_7]
      refine ⟨fun g => absurd g m1_le, fun _ => ?_⟩
      rw [p_X11_runScript_23, p_X11_runScript_30]
      exact ⟨P_X7_empty _, trivial⟩
    rw [hf]
    refine ⟨hp, Or.inl ⟨nI 1, Or.inl rfl, n10, ?_, fun u hu => ?_⟩⟩
    · show Sum.inr _ = Sum.inr (eIns (nI 1))
      unfold eIns
      rw [if_pos rfl]
    · have hu : u.1 = (vM (vM v 0 6 (nI q)) 554 3 (nI 0)).1 := hu
      obtain ⟨u1, u', q4, q5, q6, q7, q8, q9⟩ := hmod u (by rw [hu, vM_o _ _ _ _ (by omega), vM_o _ _ _ _ (by omega)]) (by rw [hu, vM_o _ _ _ _ (by omega), vM_o _ _ _ _ (by omega)])
      obtain ⟨b1, b2⟩ := q9.2.1 q rfl
      obtain ⟨h1, h2⟩ := hrs u
      rw [q8] at h1 h2
      have n1 : ¬ nI 1 = 0 := n10
      rw [f_X12_runScript_8, b2, if_neg n1, b1, f_X12_runScript_23, li_1, F_X12_fail, f_X12_runScript_28, ← vM_rw] at h1
      rw [h1]
      obtain ⟨f1, f2⟩ := fin1 hJ hu q4 q5
      refine ⟨h2 q6 q7 ?_, f1, f2⟩
      rw [p_X12_runScript_8, b2]
      refine ⟨fun g => absurd g n1, fun _ => ?_⟩
      rw [p_X12_runScript_23, p_X12_runScript_28]
      exact ⟨P_X12_fail _ _, trivial⟩
  | inr L =>
    clear k2
    obtain ⟨b1, b2, b3⟩ := o1 L rfl
    have a1 := k3 L rfl
    rw [Nat.zero_add] at a1
    subst a1
    clear o1 k3
    have hL : L.length ≤ 12 := by omega
    obtain ⟨pp, p2, o, d, ho, hd, h1, h2, h7, hh, pne, psp, pb⟩ := J_prepare hJ
    have hlt : (o + d) % 9 < 9 := Nat.mod_lt _ (by decide)
    have nn : (0 : Int32) ≤ nI L.length := nI_pos0 (by omega)
    generalize hvp : f_X3_prepare 1 v = vp at p2 pne psp pb
    have hTXp : TX (v0.1 567) n (vM vp 553 3 (nI 0)) := by
      unfold TX at hTXv ⊢
      rw [vM_o _ _ _ _ (by omega), vM_o _ _ _ _ (by omega), pne 554 (by omega), pne 555 (by omega)]
      exact hTXv
    have hrun : ∀ u : gV, u.1 559 = v.1 559 → u.1 567 = v.1 567 → u.1 560 = v.1 560 → ∃ u1 u', Pr u u1 ∧ Mk u1 u' ∧ p_X12_begin u ∧ p_X12_parse (f_X12_begin u) ∧ f_X12_parse (f_X12_begin u) = u' ∧ u'.1 559 20 = nI 0 ∧ p_X7_firstFailure_7 1 64 (nI L.length) (nI 0) (vM vp 553 3 (nI 0)) ∧ rC L.length B L.length (vM vp 553 3 (nI 0)) u' (f_X12_runScript_33 5000 (nI 0) u') (p_X12_runScript_33 5000 (nI 0) u') (f_X7_firstFailure_7 1 64 (nI L.length) (nI 0) (vM vp 553 3 (nI 0))) := fun u g1 g2 g3 => by
      obtain ⟨u1, u', q4, q5, q6, q7, q8, q9⟩ := hmod u g1 g2
      obtain ⟨d1, d2, d3, -, -⟩ := q9.2.2 L rfl
      rw [Nat.zero_add] at d2
      have e560 : u'.1 560 = v.1 560 := by rw [q5.2.1 560 (by omega) (by omega) (by omega), q4.2.1 560 (by omega) (by omega), g3]
      obtain ⟨r1, r2⟩ := Run (v0.1 567) n L.length hL L 0 0 B 64 5000 (vM vp 553 3 (nI 0)) u' rfl (by omega) (by omega) (by omega) b1 hTXp (by rw [vM_rw, vRow_eq, upd_eq]) (by rw [e560]; exact pb.same fun j a b => by rw [vM_o _ _ _ _ (by omega)]) d2 d3
      exact ⟨u1, u', q4, q5, q6, q7, q8, d1, r1, r2⟩
    clear hmod
    have hff : f_X7_firstFailure 1 (nI L.length) vp = f_X7_firstFailure_7 1 64 (nI L.length) (nI 0) (vM vp 553 3 (nI 0)) := by
      rw [f_X7_firstFailure, f_X7_firstFailure_0, f_X7_firstFailure_5, li_0]
    have hfp : p_X7_firstFailure_7 1 64 (nI L.length) (nI 0) (vM vp 553 3 (nI 0)) → p_X7_firstFailure 1 (nI L.length) vp := fun h => by
      rw [p_X7_firstFailure, p_X7_firstFailure_0, p_X7_firstFailure_5, li_0]
      exact h
    obtain ⟨-, u0, -, -, -, -, -, -, z1, z2⟩ := hrun v rfl rfl rfl
    generalize p_X7_firstFailure_7 1 64 (nI L.length) (nI 0) (vM vp 553 3 (nI 0)) = pf at z1 hfp hrun
    generalize f_X7_firstFailure_7 1 64 (nI L.length) (nI 0) (vM vp 553 3 (nI 0)) = rf at z2 hff hrun
    obtain ⟨j, wf⟩ := rf
    obtain ⟨z2, z3⟩ := z2
    have z2 : Ek (vM vp 553 3 (nI 0)) wf := z2
    have wrow : ∀ j, 51 ≤ j → ¬ j = 553 → ¬ j = 556 → (j < 103 + 50 * ((o + d) % 9) ∨ 103 + 50 * ((o + d) % 9) + 50 ≤ j) → wf.1 j = v.1 j := fun j a b c e => by rw [z2.2 j (Or.inr a) b c, vM_o _ _ _ _ b, pne j e]
    have hfp := hfp z1
    have hf0 : f_X11_runScript v0 = f_X11_runScript_72 (nI L.length) j (vM wf 554 3 (nI 0)) := by
      rw [f_X11_runScript, f_X11_runScript_0, kf]
      show f_X11_runScript_7 (nI L.length) v = _
      rw [f_X11_runScript_7, if_pos nn, f_X11_runScript_52, hvp, hff, f_X11_runScript_64, F_X7_empty]
    have hp0 : p_X11_runScript_72 (nI L.length) j (vM wf 554 3 (nI 0)) → p_X11_runScript v0 := fun h => by
      rw [p_X11_runScript, p_X11_runScript_0, kf]
      refine ⟨kp, ?_⟩
      show p_X11_runScript_7 (nI L.length) v
      rw [p_X11_runScript_7]
      refine ⟨fun _ => ⟨pp, ?_⟩, fun g => absurd nn g⟩
      rw [p_X11_runScript_52, hvp, hff]
      refine ⟨hfp, ?_⟩
      rw [p_X11_runScript_64, F_X7_empty]
      exact ⟨P_X7_empty _, h⟩
    rw [hf0]
    clear hf0 hff kf kp hJ0 hck
    rcases z3 with ⟨z4, -⟩ | ⟨i, z4, z5, -⟩
    · have z4 : j = (-1 : Int32) := z4
      subst z4
      have e101 : (vM wf 554 3 (nI 0)).1 101 = v.1 101 := by rw [vM_o _ _ _ _ (by omega), wrow 101 (by omega) (by omega) (by omega) (by omega)]
      obtain ⟨kq, kne, k101⟩ := keep_at (v := v) (v' := vM wf 554 3 (nI 0)) ho hd (by rw [e101]; exact h1) (by rw [e101]; exact h2) e101
      rw [f_X11_runScript_72, if_pos m1_lt, F_X11_changed, f_X11_runScript_108]
      have hp := hp0 (by
        rw [p_X11_runScript_72]
        refine ⟨fun _ => ⟨P_X11_changed _ _ kq, ?_⟩, fun g => absurd m1_lt g⟩
        rw [p_X11_runScript_108]
        trivial)
      generalize f_X3_keep (vM wf 554 3 (nI 0)) = vk at kne k101 ⊢
      refine ⟨hp, Or.inr ⟨nI L.length, trivial, rfl, fun u hu => ?_⟩⟩
      have hu : u.1 = vk.1 := hu
      have urow : ∀ j, 559 ≤ j → u.1 j = v.1 j := fun j a => by rw [hu, kne j (by omega), vM_o _ _ _ _ (by omega), wrow j (by omega) (by omega) (by omega) (by omega)]
      obtain ⟨u1, u', q4, q5, q6, q7, q8, q9, -, q10, q11⟩ := hrun u (urow 559 (by omega)) (urow 567 (by omega)) (urow 560 (by omega))
      obtain ⟨h3, h4⟩ := hrs u
      rw [q8] at h3 h4
      have g0 : nI 0 = 0 := rfl
      rw [f_X12_runScript_8, q9, if_pos g0, li_0] at h3
      rw [p_X12_runScript_8, q9, li_0] at h4
      rcases q11 with ⟨-, u2, x1, x2, x3, x4⟩ | ⟨i, x1, x2, -⟩
      · obtain ⟨g7, g6, gJ⟩ := fin2 (B1 := B + L.length) hJ (by omega) (by omega) ho hd h1 h2 h7 hh pne psp z2 kne k101 hu q4 q5 x1 x2
        obtain ⟨cp, cf⟩ := K_commit (nI L.length) u2 hd g7
        rw [h3, x4, cf]
        refine ⟨h4 q6 q7 ⟨fun _ => x3 cp, fun g => absurd rfl g⟩, g6, rfl, ?_, gJ⟩
        show u2.2 = u.2
        rw [x1.1, q5.1, q4.1]
      · exact absurd (show (-1 : Int32) = nI i from x2) (m1_n (by omega))
    · have z5 : j = nI i := z5
      subst z5
      have i0 : ¬ nI i < 0 := nI_neg (by omega)
      have e101 : (vM wf 554 3 (nI 0)).1 101 = v.1 101 := by rw [vM_o _ _ _ _ (by omega), wrow 101 (by omega) (by omega) (by omega) (by omega)]
      have hch : chars (vM wf 554 3 (nI 0)) (103 + 50 * ((o + d) % 9)) := by
        have hb : BRx B (vM wf 554 3 (nI 0)) (103 + 50 * ((o + d) % 9)) (v.1 560) := hJ.1.copy fun q k hr => by
          have hq : q < 50 := by unfold rel at hr; omega
          rw [vM_o _ _ _ _ (by omega), z2.2 _ (by omega) (by omega) (by omega), vM_o _ _ _ _ (by omega), psp q k hr]
        exact hb.chars
      obtain ⟨bp, b2, bne, bsp⟩ := K_bringBack (vM wf 554 3 (nI 0)) ho hd (by rw [e101]; exact h1) (by rw [e101]; exact h2) hch
      rw [f_X11_runScript_72, if_neg i0, f_X11_runScript_87, f_X11_runScript_92]
      have hp := hp0 (by
        rw [p_X11_runScript_72]
        refine ⟨fun g => absurd g i0, fun _ => ⟨bp, ?_⟩⟩
        rw [p_X11_runScript_87, p_X11_runScript_92]
        trivial)
      generalize f_X3_bringBack 1 (vM wf 554 3 (nI 0)) = vb at b2 bne bsp ⊢
      refine ⟨hp, Or.inl ⟨nI 2, Or.inr rfl, nI_ne (by omega) (by omega) (by omega), ?_, fun u hu => ?_⟩⟩
      · show Sum.inr _ = Sum.inr (eIns (nI 2))
        unfold eIns
        rw [if_neg (nI_ne (by omega) (by omega) (by omega))]
      · have hu : u.1 = (vM vb 0 7 (nI i)).1 := hu
        have urow : ∀ j, 559 ≤ j → u.1 j = v.1 j := fun j a => by rw [hu, vM_o _ _ _ _ (by omega), bne j (by omega), vM_o _ _ _ _ (by omega), wrow j (by omega) (by omega) (by omega) (by omega)]
        obtain ⟨u1, u', q4, q5, q6, q7, q8, q9, -, q10, q11⟩ := hrun u (urow 559 (by omega)) (urow 567 (by omega)) (urow 560 (by omega))
        obtain ⟨h3, h4⟩ := hrs u
        rw [q8] at h3 h4
        have g0 : nI 0 = 0 := rfl
        rw [f_X12_runScript_8, q9, if_pos g0, li_0] at h3
        rw [p_X12_runScript_8, q9, li_0] at h4
        rcases q11 with ⟨x2, -⟩ | ⟨i', x1, x2, u2, x3, x4, x5⟩
        · exact absurd (show (-1 : Int32) = nI i from (show nI i = (-1 : Int32) from x2).symm) (m1_n (by omega))
        · have x2 : nI i = nI i' := x2
          have : i' = i := ((eq_n (by omega) (by omega)).mp x2).symm
          subst this
          obtain ⟨f1, f2⟩ := fin3 (i := i') hJ h1 h2 ho hd pne psp z2 bne bsp hu q4 q5 x3
          rw [h3, x5, F_145]
          exact ⟨h4 q6 q7 ⟨fun _ => x4, fun g => absurd rfl g⟩, f1, f2⟩
