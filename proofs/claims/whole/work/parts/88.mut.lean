/-! a change, from its call to its end, on both sides -/
theorem J_mono60 {B : Nat} {v : gV} : J B v → J (B + 64) v := J.mono (by omega)
/-- begin, then fail or commit: cells of the reference -/
theorem begin_at (u : gV) : (f_X12_begin u).2 = u.2 ∧ (∀ j, ¬ j = 559 → ¬ j = 561 → (f_X12_begin u).1 j = u.1 j) ∧ (f_X12_begin u).1 559 = upd (u.1 559) 6 (nI 0) ∧ ∀ k, k < 300 → (f_X12_begin u).1 561 k = u.1 560 k := by
  rw [(K_begin u).2]
  refine ⟨rfl, fun j h1 h2 => by rw [vRow_ne _ _ h2, vRow_ne _ _ h1], by rw [vRow_ne _ _ (by omega), vRow_eq], fun k hk => ?_⟩
  rw [vRow_eq]
  have h := cp3_in (f := u.1 560) (g := u.1 561) (a := 0) (c := 0) hk
  rw [Nat.zero_add] at h
  exact h
/-- what the invariant asks of cells that a change leaves alone -/
theorem J_same {B B' : Nat} {v u : gV} (hB : B ≤ B') (hJ : J B v) (hb : BRx B' u 1 (u.1 560)) (hh : JH B' u) (h0 : u.1 0 = v.1 0) (h51 : ∀ j, 51 ≤ j → j < 101 → u.1 j = v.1 j) (h55 : ∀ j, 554 ≤ j → j < 559 → u.1 j = v.1 j) (h559 : ∀ k, 8 ≤ k → u.1 559 k = v.1 559 k) (h562 : u.1 562 = v.1 562) (h566 : u.1 566 = v.1 566) (h567 : u.1 567 = v.1 567) : J B' u := by
  obtain ⟨-, -, j3, j4, j5, j6⟩ := hJ
  refine ⟨hb, hh, ?_, ?_, ?_, ?_⟩
  · unfold JS
    rw [h0, h559 10 (by omega), h562]
    exact j3.imp id fun ⟨a, b, c⟩ => ⟨a, b, (c.mono hB).same fun j h1 h2 => h51 j h1 (by omega)⟩
  · unfold JT
    rw [h55 554 (by omega) (by omega), h55 555 (by omega) (by omega), h559 16 (by omega), h567]
    exact j4
  · unfold JO
    rw [h55 557 (by omega) (by omega), h55 558 (by omega) (by omega), h559 12 (by omega), h566]
    exact j5
  · unfold JE
    rw [h0, h559 8 (by omega), h559 9 (by omega)]
    exact j6
/-- the class alone: a state laid by -/
theorem J_prepare {B : Nat} {v : gV} (hJ : J B v) : p_X3_prepare 1 v ∧ (f_X3_prepare 1 v).2 = v.2 ∧ ∃ o d, o < 9 ∧ d ≤ 8 ∧ v.1 101 1 = nI o ∧ v.1 101 2 = nI d ∧ v.1 559 7 = nI d ∧ (∀ i, i < d → BRx B v (103 + 50 * ((o + i) % 9)) (fun k => v.1 563 (300 * i + k))) ∧ (∀ j, j < 103 + 50 * ((o + d) % 9) ∨ 103 + 50 * ((o + d) % 9) + 50 ≤ j → (f_X3_prepare 1 v).1 j = v.1 j) ∧ (∀ q k, rel q k → (f_X3_prepare 1 v).1 (103 + 50 * ((o + d) % 9) + q) k = v.1 (1 + q) k) ∧ BRx B (f_X3_prepare 1 v) 1 (v.1 560) := by
  obtain ⟨j1, ⟨o, d, h1, h2, h3, h4, h5, h6⟩, -⟩ := hJ
  obtain ⟨k1, k2, k3, k4⟩ := K_prepare (B := B) v h1 h2 h3 h4 j1.chars
  exact ⟨k1, k2, o, d, h1, h2, h3, h4, h5, h6, k3, k4, j1.same fun j ha hb => k3 j (by omega)⟩
theorem mut_ok {B o d : Nat} {v v1 v' vk u ub ux : gV} (hJ : J B v) (ho : o < 9) (hd : d ≤ 8) (h1 : v.1 101 1 = nI o) (h2 : v.1 101 2 = nI d) (h7 : v.1 559 7 = nI d) (hh : ∀ i, i < d → BRx B v (103 + 50 * ((o + i) % 9)) (fun k => v.1 563 (300 * i + k))) (pne : ∀ j, j < 103 + 50 * ((o + d) % 9) ∨ 103 + 50 * ((o + d) % 9) + 50 ≤ j → v1.1 j = v.1 j) (psp : ∀ q k, rel q k → v1.1 (103 + 50 * ((o + d) % 9) + q) k = v.1 (1 + q) k) (hfr : Fr v1 v') (kne : ∀ j, ¬ j = 101 → vk.1 j = v'.1 j) (k101 : vk.1 101 = if d = 8 then upd (v.1 101) 1 (nI ((o + 1) % 9)) else upd (v.1 101) 2 (nI (d + 1))) (hu : u.1 = vk.1) (b2 : ∀ j, ¬ j = 559 → ¬ j = 561 → ub.1 j = u.1 j) (b3 : ub.1 559 = upd (u.1 559) 6 (nI 0)) (b4 : ∀ k, k < 300 → ub.1 561 k = u.1 560 k) (xne : ∀ j, ¬ j = 560 → ¬ j = 564 → ¬ j = 565 → ux.1 j = ub.1 j) (xb : BRx (B + 1) v' 1 (ux.1 560)) : ux.1 559 7 = nI d ∧ (vRow (vRow ux 563 (his (ux.1 563) (ux.1 561) d)) 559 (upd (ux.1 559) 7 (nI (if d = 8 then 8 else d + 1)))).1 559 6 = nI 0 ∧ J (B + 1) (vRow (vRow ux 563 (his (ux.1 563) (ux.1 561) d)) 559 (upd (ux.1 559) 7 (nI (if d = 8 then 8 else d + 1)))) := by
  have e560 : v1.1 560 = v.1 560 := pne 560 (by omega)
  have hu559 : u.1 559 = v.1 559 := by rw [hu, kne 559 (by omega), hfr.2 559 (by omega), pne 559 (by omega)]
  have x559 : ux.1 559 = upd (v.1 559) 6 (nI 0) := by rw [xne 559 (by omega) (by omega) (by omega), b3, hu559]
  have hP : ∀ k, k < 300 → ux.1 561 k = v.1 560 k := fun k hk => by
    rw [xne 561 (by omega) (by omega) (by omega), b4 k hk, hu, kne 560 (by omega), hfr.2 560 (by omega), e560]
  have h563 : ux.1 563 = v.1 563 := by rw [xne 563 (by omega) (by omega) (by omega), b2 563 (by omega) (by omega), hu, kne 563 (by omega), hfr.2 563 (by omega), pne 563 (by omega)]
  have x101 : ux.1 101 = vk.1 101 := by rw [xne 101 (by omega) (by omega) (by omega), b2 101 (by omega) (by omega), hu]
  have x560 : ∀ uc : gV, (∀ j, ¬ j = 559 → ¬ j = 563 → uc.1 j = ux.1 j) → uc.1 560 = ux.1 560 := fun uc h => h 560 (by omega) (by omega)
  have hall : ∀ j, ¬ j = 101 → ¬ j = 559 → ¬ j = 560 → ¬ j = 561 → ¬ j = 564 → ¬ j = 565 → ux.1 j = v'.1 j := fun j a1 a2 a3 a4 a6 a7 => by
    rw [xne j a3 a6 a7, b2 j a2 a4, hu, kne j a1]
  have hx7 : ux.1 559 7 = nI d := by rw [x559, upd_ne (by omega)]; exact h7
  clear b2 b3 b4 xne kne hu hu559
  have c559 : (vRow (vRow ux 563 (his (ux.1 563) (ux.1 561) d)) 559 (upd (ux.1 559) 7 (nI (if d = 8 then 8 else d + 1)))).1 559 = upd (ux.1 559) 7 (nI (if d = 8 then 8 else d + 1)) := vRow_eq _ _ _
  have c563 : (vRow (vRow ux 563 (his (ux.1 563) (ux.1 561) d)) 559 (upd (ux.1 559) 7 (nI (if d = 8 then 8 else d + 1)))).1 563 = his (ux.1 563) (ux.1 561) d := by rw [vRow_ne _ _ (show ¬ 563 = 559 by omega), vRow_eq]
  have cne : ∀ j, ¬ j = 559 → ¬ j = 563 → (vRow (vRow ux 563 (his (ux.1 563) (ux.1 561) d)) 559 (upd (ux.1 559) 7 (nI (if d = 8 then 8 else d + 1)))).1 j = ux.1 j := fun j a b => by rw [vRow_ne _ _ a, vRow_ne _ _ b]
  refine ⟨hx7, ?_, ?_⟩
  · rw [c559, upd_ne (by omega), x559, upd_eq]
  generalize vRow (vRow ux 563 (his (ux.1 563) (ux.1 561) d)) 559 (upd (ux.1 559) 7 (nI (if d = 8 then 8 else d + 1))) = uc at c559 c563 cne ⊢
  have hgen : ∀ j, ¬ j = 101 → ¬ j = 559 → ¬ j = 560 → ¬ j = 561 → ¬ j = 563 → ¬ j = 564 → ¬ j = 565 → uc.1 j = v'.1 j := fun j a1 a2 a3 a4 a5 a6 a7 => by
    rw [cne j a2 a5, hall j a1 a2 a3 a4 a6 a7]
  have hslots : ∀ j, 51 ≤ j → ¬ j = 101 → ¬ j = 559 → ¬ j = 560 → ¬ j = 561 → ¬ j = 563 → ¬ j = 564 → ¬ j = 565 → (j < 103 + 50 * ((o + d) % 9) ∨ 103 + 50 * ((o + d) % 9) + 50 ≤ j) → uc.1 j = v.1 j := fun j a0 a1 a2 a3 a4 a5 a6 a7 a8 => by
    rw [hgen j a1 a2 a3 a4 a5 a6 a7, hfr.2 j (Or.inr a0), pne j a8]
  have hlt : (o + d) % 9 < 9 := Nat.mod_lt _ (by decide)
  generalize he : (o + d) % 9 = e at *
  refine J_same (B := B) (v := v) (by omega) hJ ?_ ?_ ?_ ?_ ?_ ?_ ?_ ?_ ?_
  · rw [cne 560 (by omega) (by omega)]
    exact xb.same fun j a b => hgen j (by omega) (by omega) (by omega) (by omega) (by omega) (by omega) (by omega)
  · refine (JH_push (B := B) (P := ux.1 561) ho hd h1 h2 hh hJ.1 ?_ ?_ ?_ hP ?_ ?_).mono (by omega)
    · rw [cne 101 (by omega) (by omega), x101, k101]
    · rw [c559, upd_eq]
    · rw [c563, h563]
    · rw [he]
      exact fun j a b c => hslots j (by omega) (by omega) (by omega) (by omega) (by omega) (by omega) (by omega) (by omega) c
    · rw [he]
      intro q k hr
      have hq : q < 50 := by unfold rel at hr; omega
      rw [hgen _ (by omega) (by omega) (by omega) (by omega) (by omega) (by omega) (by omega), hfr.2 _ (by omega)]
      exact psp q k hr
  · rw [hgen 0 (by omega) (by omega) (by omega) (by omega) (by omega) (by omega) (by omega), hfr.2 0 (by omega), pne 0 (by omega)]
  · exact fun j a b => hslots j (by omega) (by omega) (by omega) (by omega) (by omega) (by omega) (by omega) (by omega) (by omega)
  · exact fun j a b => hslots j (by omega) (by omega) (by omega) (by omega) (by omega) (by omega) (by omega) (by omega) (by omega)
  · intro k hk
    rw [c559, upd_ne (by omega), x559, upd_ne (by omega)]
  · exact hslots 562 (by omega) (by omega) (by omega) (by omega) (by omega) (by omega) (by omega) (by omega) (by omega)
  · exact hslots 566 (by omega) (by omega) (by omega) (by omega) (by omega) (by omega) (by omega) (by omega) (by omega)
  · exact hslots 567 (by omega) (by omega) (by omega) (by omega) (by omega) (by omega) (by omega) (by omega) (by omega)
theorem mut_no {B o d : Nat} {v v1 u ub : gV} (y : Int32) (hJ : J B v) (ho : o < 9) (hd : d ≤ 8) (h1 : v.1 101 1 = nI o) (h2 : v.1 101 2 = nI d) (pne : ∀ j, j < 103 + 50 * ((o + d) % 9) ∨ 103 + 50 * ((o + d) % 9) + 50 ≤ j → v1.1 j = v.1 j) (hu : u.1 = v1.1) (b2 : ∀ j, ¬ j = 559 → ¬ j = 561 → ub.1 j = u.1 j) (b3 : ub.1 559 = upd (u.1 559) 6 (nI 0)) : J B (vRow ub 559 (upd (ub.1 559) 6 y)) := by
  have cne : ∀ j, ¬ j = 559 → (vRow ub 559 (upd (ub.1 559) 6 y)).1 j = ub.1 j := fun j a => vRow_ne _ _ a
  have c559 : (vRow ub 559 (upd (ub.1 559) 6 y)).1 559 = upd (ub.1 559) 6 y := vRow_eq _ _ _
  generalize vRow ub 559 (upd (ub.1 559) 6 y) = uc at cne c559 ⊢
  have hslots : ∀ j, ¬ j = 559 → ¬ j = 561 → (j < 103 + 50 * ((o + d) % 9) ∨ 103 + 50 * ((o + d) % 9) + 50 ≤ j) → uc.1 j = v.1 j := fun j a1 a2 a3 => by rw [cne j a1, b2 j a1 a2, hu, pne j a3]
  have h559 : ∀ k, ¬ k = 6 → uc.1 559 k = v.1 559 k := fun k hk => by
    rw [c559, upd_ne hk, b3, upd_ne hk, hu, pne 559 (by omega)]
  have hlt : (o + d) % 9 < 9 := Nat.mod_lt _ (by decide)
  refine J_same (B := B) (v := v) (by omega) hJ ?_ ?_ ?_ ?_ ?_ ?_ ?_ ?_ ?_
  · rw [hslots 560 (by omega) (by omega) (by omega)]
    exact hJ.1.same fun j a b => hslots j (by omega) (by omega) (by omega)
  · refine JH_same hJ.2.1 (hslots 101 (by omega) (by omega) (by omega)) (h559 7 (by omega)) (hslots 563 (by omega) (by omega) (by omega)) fun o' d' a1 a2 a3 a4 j a5 a6 a7 => ?_
    have ho' : o' = o := by
      rw [h1, eq_n (by omega) (by omega)] at a3
      exact a3.symm
    have hd' : d' = d := by
      rw [h2, eq_n (by omega) (by omega)] at a4
      exact a4.symm
    subst ho'
    subst hd'
    exact hslots j (by omega) (by omega) a7
  · exact hslots 0 (by omega) (by omega) (by omega)
  · exact fun j a b => hslots j (by omega) (by omega) (by omega)
  · exact fun j a b => hslots j (by omega) (by omega) (by omega)
  · exact fun k hk => h559 k (by omega)
  · exact hslots 562 (by omega) (by omega) (by omega)
  · exact hslots 566 (by omega) (by omega) (by omega)
  · exact hslots 567 (by omega) (by omega) (by omega)
theorem F_X11_changed (r : Int32) (v : gV) : f_X11_changed r v = (r, f_X3_keep v) := by
  simp only [f_X11_changed_7, f_X11_changed_0, f_X11_changed]
theorem P_X11_changed (r : Int32) (v : gV) (h : p_X3_keep v) : p_X11_changed r v := by
  simp only [p_X11_changed_7, p_X11_changed_0, p_X11_changed, h, and_self]
theorem F_X12_fail (y : Int32) (u : gV) : f_X12_fail y u = (nI 0, vRow u 559 (upd (u.1 559) 6 y)) := by
  simp only [f_X12_fail_5, f_X12_fail_0, f_X12_fail, li_0, vM_rw]
theorem keep_at {o d : Nat} {v v' : gV} (ho : o < 9) (hd : d ≤ 8) (h1 : v'.1 101 1 = nI o) (h2 : v'.1 101 2 = nI d) (he : v'.1 101 = v.1 101) : p_X3_keep v' ∧ (∀ j, ¬ j = 101 → (f_X3_keep v').1 j = v'.1 j) ∧ (f_X3_keep v').1 101 = if d = 8 then upd (v.1 101) 1 (nI ((o + 1) % 9)) else upd (v.1 101) 2 (nI (d + 1)) := by
  obtain ⟨kp, kf⟩ := K_keep v' ho hd h1 h2
  rw [kf]
  refine ⟨kp, fun j hj => ?_, ?_⟩
  · by_cases h8 : d = 8
    · rw [if_pos h8, vRow_ne _ _ hj]
    · rw [if_neg h8, vRow_ne _ _ hj]
  · by_cases h8 : d = 8
    · rw [if_pos h8, if_pos h8, vRow_eq, he]
    · rw [if_neg h8, if_neg h8, vRow_eq, he]
theorem mut_abs {C : gV → (Int32 ⊕ String) × gV} {pC : gV → Prop} {Y : gV → Int32} {pY : gV → Prop} {X : gV → Int32 × gV} {pX : gV → Prop} {eY : Int32 → String} {oy : Int32 → Prop} {B : Nat} (hC : Cmd C pC Y pY X pX eY oy B) {v v1 : gV} (hJ : J B v) {pre : Prop} (pp : pre) {o d : Nat} (ho : o < 9) (hd : d ≤ 8) (h1 : v.1 101 1 = nI o) (h2 : v.1 101 2 = nI d) (h7 : v.1 559 7 = nI d) (hh : ∀ i, i < d → BRx B v (103 + 50 * ((o + i) % 9)) (fun k => v.1 563 (300 * i + k))) (pne : ∀ j, j < 103 + 50 * ((o + d) % 9) ∨ 103 + 50 * ((o + d) % 9) + 50 ≤ j → v1.1 j = v.1 j) (psp : ∀ q k, rel q k → v1.1 (103 + 50 * ((o + d) % 9) + q) k = v.1 (1 + q) k) (pb : BRx B v1 1 (v.1 560)) (kp : gV → gV) (pk : gV → Prop) (hk : ∀ v' : gV, v'.1 101 = v.1 101 → pk v' ∧ (∀ j, ¬ j = 101 → (kp v').1 j = v'.1 j) ∧ (kp v').1 101 = if d = 8 then upd (v.1 101) 1 (nI ((o + 1) % 9)) else upd (v.1 101) 2 (nI (d + 1))) (ch : Int32 → gV → Int32 × gV) (pch : Int32 → gV → Prop) (hch : ∀ r v', ch r v' = (r, kp v')) (hpch : ∀ r v', pk v' → pch r v') (beg : gV → gV) (pbeg : gV → Prop) (hpb : ∀ u, pbeg u) (hbeg : ∀ u, (beg u).2 = u.2 ∧ (∀ j, ¬ j = 559 → ¬ j = 561 → (beg u).1 j = u.1 j) ∧ (beg u).1 559 = upd (u.1 559) 6 (nI 0) ∧ ∀ k, k < 300 → (beg u).1 561 k = u.1 560 k) (fl : Int32 → gV → Int32 × gV) (hfl : ∀ y u, fl y u = (nI 0, vRow u 559 (upd (u.1 559) 6 y))) (cm : Int32 → gV → Int32 × gV) (pcm : Int32 → gV → Prop) (hcm : ∀ r (ux : gV), ux.1 559 7 = nI d → pcm r ux ∧ cm r ux = (r, vRow (vRow ux 563 (his (ux.1 563) (ux.1 561) d)) 559 (upd (ux.1 559) 7 (nI (if d = 8 then 8 else d + 1))))) : pre ∧ pC v1 ∧ ((∃ y, oy y ∧ ¬ y = nI 0 ∧ C v1 = (Sum.inr (eY y), v1) ∧ ∀ u : gV, u.1 = v1.1 → pbeg u ∧ pY (beg u) ∧ Y (beg u) = y ∧ ∃ uf, fl y (beg u) = (nI 0, uf) ∧ uf.1 559 6 = y ∧ uf.2 = u.2 ∧ J B uf) ∨ (∃ r v' vk, C v1 = (Sum.inl r, v') ∧ pch r v' ∧ ch r v' = (r, vk) ∧ ∀ u : gV, u.1 = vk.1 → pbeg u ∧ pY (beg u) ∧ Y (beg u) = nI 0 ∧ pX (beg u) ∧ ∃ ux uc, X (beg u) = (r, ux) ∧ pcm r ux ∧ cm r ux = (r, uc) ∧ uc.1 559 6 = nI 0 ∧ uc.2 = u.2 ∧ J (B + 1) uc)) := by
  have e560 : v1.1 560 = v.1 560 := pne 560 (by omega)
  have e101 : v1.1 101 = v.1 101 := pne 101 (by omega)
  rw [← e560] at pb
  obtain ⟨cp, y, cy, c1, c0⟩ := hC v1 _ pb
  refine ⟨pp, cp, ?_⟩
  by_cases hy : y = nI 0
  · obtain ⟨r, v', hf, hfr, hX⟩ := c0 hy
    have k0 : v'.1 101 = v.1 101 := (hfr.2 101 (by omega)).trans e101
    obtain ⟨kq, kne, k101⟩ := hk v' k0
    refine Or.inr ⟨r, v', kp v', hf, hpch r v' kq, hch r v', fun u hu => ?_⟩
    obtain ⟨b1, b2, b3, b4⟩ := hbeg u
    have hub : (beg u).1 560 = v1.1 560 := by rw [b2 560 (by omega) (by omega), hu, kne 560 (by omega), hfr.2 560 (by omega)]
    obtain ⟨yp, yf⟩ := cy (beg u) hub
    obtain ⟨xp, ux, xf, x2, xne, xb⟩ := hX (beg u) hub
    obtain ⟨m1, m2, m3⟩ := mut_ok hJ ho hd h1 h2 h7 hh pne psp hfr kne k101 hu b2 b3 b4 xne xb
    obtain ⟨mp, mf⟩ := hcm r ux m1
    exact ⟨hpb u, yp, yf.trans hy, xp, ux, _, xf, mp, mf, m2, x2.trans b1, m3⟩
  · obtain ⟨hf, hoy⟩ := c1 hy
    refine Or.inl ⟨y, hoy, hy, hf, fun u hu => ?_⟩
    obtain ⟨b1, b2, b3, b4⟩ := hbeg u
    have hub : (beg u).1 560 = v1.1 560 := by rw [b2 560 (by omega) (by omega), hu]
    obtain ⟨yp, yf⟩ := cy (beg u) hub
    refine ⟨hpb u, yp, yf, _, hfl y (beg u), ?_, b1, mut_no y hJ ho hd h1 h2 pne hu b2 b3⟩
    rw [vRow_eq, upd_eq]
theorem mut_c {C : gV → (Int32 ⊕ String) × gV} {pC : gV → Prop} {Y : gV → Int32} {pY : gV → Prop} {X : gV → Int32 × gV} {pX : gV → Prop} {eY : Int32 → String} {oy : Int32 → Prop} {B : Nat} (hC : Cmd C pC Y pY X pX eY oy B) {v : gV} (hJ : J B v) : p_X3_prepare 1 v ∧ pC (f_X3_prepare 1 v) ∧ ((∃ y, oy y ∧ ¬ y = nI 0 ∧ C (f_X3_prepare 1 v) = (Sum.inr (eY y), f_X3_prepare 1 v) ∧ ∀ u : gV, u.1 = (f_X3_prepare 1 v).1 → p_X12_begin u ∧ pY (f_X12_begin u) ∧ Y (f_X12_begin u) = y ∧ ∃ uf, f_X12_fail y (f_X12_begin u) = (nI 0, uf) ∧ uf.1 559 6 = y ∧ uf.2 = u.2 ∧ J B uf) ∨ (∃ r v' vk, C (f_X3_prepare 1 v) = (Sum.inl r, v') ∧ p_X11_changed r v' ∧ f_X11_changed r v' = (r, vk) ∧ ∀ u : gV, u.1 = vk.1 → p_X12_begin u ∧ pY (f_X12_begin u) ∧ Y (f_X12_begin u) = nI 0 ∧ pX (f_X12_begin u) ∧ ∃ ux uc, X (f_X12_begin u) = (r, ux) ∧ p_X12_commit r ux ∧ f_X12_commit r ux = (r, uc) ∧ uc.1 559 6 = nI 0 ∧ uc.2 = u.2 ∧ J (B + 1) uc)) := by
  obtain ⟨pp, p2, o, d, ho, hd, h1, h2, h7, hh, pne, psp, pb⟩ := J_prepare hJ
  exact mut_abs hC hJ pp ho hd h1 h2 h7 hh pne psp pb f_X3_keep p_X3_keep (fun v' hv => keep_at (v := v) (v' := v') ho hd (by rw [hv]; exact h1) (by rw [hv]; exact h2) hv) f_X11_changed p_X11_changed F_X11_changed P_X11_changed f_X12_begin p_X12_begin (fun u => (K_begin u).1) begin_at f_X12_fail F_X12_fail f_X12_commit p_X12_commit (fun r ux h => K_commit r ux hd h)
