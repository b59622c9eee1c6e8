/-! the law's own rows: its script -/
abbrev m_L_law : gMd := (yL_law, cL_law, RL, 9, some .boolean, [], true)
section LAW0
variable {E : gE} {μ : gMd} {d : Nat} {Q : gO → gS → Prop} {k n : Nat} {σ : gS} {v : gV} {pc : Nat} {lv : List (Nat × Value)} {st : List Value}
theorem gX_scr {s : State} {H : Heap} (hB : gB E H) (hKK : gKK E s) : va_X (gva E 200) (gva E 201) (gxs E) s H ∧ gva E 200 < H.size ∧ ¬ gA E (gva E 200) := by
  have hX := hKK.2.2.2.2.2.1
  have hz := hKK.2.2.2.2.2.2.1
  obtain ⟨scr, h1, h2, h3, h4, h5⟩ := hX
  have hl := (Array.getElem?_eq_some_iff.mp h1).1
  have hlt : gva E 200 < gX E := by rw [← hz]; exact hl
  refine ⟨⟨scr, by rw [hB.2 _ hlt]; exact h1, h2, h3, h4, h5⟩, Nat.lt_of_lt_of_le hlt hB.1, Nat.not_le.mpr hlt⟩
theorem g_slen {N : Nat} (hN : gva E 201 = N) (hdg : decode (md_c μ) pc = .ok (.arraylength, 1)) (kk : gG E μ d Q k n σ (pc + 1) lv (.int (nI N) :: st)) : gG E μ d Q k n σ pc lv (.ref (gva E 200) :: st) := by
  subst hN
  intro mcT msT p l e R s m args below meth c Z cx H locs cells slots ls hH hS hc hss hl
  have cx0 := cx
  obtain ⟨hx, hb, hml, hown, hts, hKK, hR, hB, -⟩ := cx0
  obtain ⟨h1, h2, h3⟩ := gX_scr hB hKK
  exact va_slen hx hb h1 h2 h3 hS hdg (kk _ _ _ _ _ _ _ _ _ _ _ _ _ cx H locs cells slots ls hH hS hc hss hl)
theorem g_sld {N : Nat} {xs : Nat → Int32} {i : Int32} (hN : gva E 201 = N) (hxs : gxs E = xs) (hi : vp_in i N) (hdg : decode (md_c μ) pc = .ok (.iaload, 1)) (kk : gG E μ d Q k n σ (pc + 1) lv (.int (xs i.toNatClampNeg) :: st)) : gG E μ d Q k n σ pc lv (.int i :: .ref (gva E 200) :: st) := by
  subst hN
  subst hxs
  intro mcT msT p l e R s m args below meth c Z cx H locs cells slots ls hH hS hc hss hl
  have cx0 := cx
  obtain ⟨hx, hb, hml, hown, hts, hKK, hR, hB, -⟩ := cx0
  obtain ⟨h1, h2, h3⟩ := gX_scr hB hKK
  exact va_sld hx hb h1 h2 h3 hS hi hdg (kk _ _ _ _ _ _ _ _ _ _ _ _ _ cx H locs cells slots ls hH hS hc hss hl)
end LAW0
