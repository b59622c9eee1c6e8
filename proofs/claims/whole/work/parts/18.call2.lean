/-! the flat machine: the other calls -/
section GCALL2
variable {E : gE} {μ : gMd} {d : Nat} {Q : gO → gS → Prop} {k n : Nat} {σ : gS} {pc : Nat} {lv : List (Nat × Value)} {st : List Value}
theorem g_callA {own : String} {idx ci j nA d' mc ms : Nat} {μ' : gMd} {As rest : List Value} {Q' : gO → gS → Prop} (hs : gSA own idx ci μ' nA) (ho : md_o μ = own) (hm : CT E μ' d' mc ms (.ref (gX E + j) :: As) σ Q') (hkd : kd j = (0, ci)) (hj : j < gn σ) (hst : st = As.reverse ++ .ref (gX E + j) :: rest) (hnA : As.length = nA) (hcat : (rest.map fun v => v.category).sum ≤ 8) (hd : d' + 1 ≤ d) (hk : mc ≤ k) (hn : ms ≤ n) (hdg : decode (md_c μ) pc = .ok (.invokevirtual idx, 3))
    (kk : ∀ (v : Option Value) (σ' : gS), Q' (.inl v) σ' → gG E μ d Q (k - mc) (n - ms) σ' (pc + 3) lv (v.toList ++ rest)) (kx : ∀ (En : String) (σ' : gS), Q' (.inr En) σ' → gGx E μ d Q (k - mc) (n - ms) σ' pc lv rest En) : gG E μ d Q k n σ pc lv st := by
  refine g_runx hk hn (fun mcT msT p l e R s m args below meth c Z cx H locs cells slots ls hH hc hss hl => ?_) kk kx
  obtain ⟨hx, hb, hml, hown, hts, hKK, hR, hB, hl0, -⟩ := cx
  obtain ⟨C, T, N, x, owner, hc1, hh, hw, hcw, hdc, hnm, hn40⟩ := hs
  obtain ⟨hBB, h572, hsz, τ, ht1, ht2, hP, hD⟩ := id hH
  have he : (gws E τ σ)[j]? = some (gX E + j, .inr (ci, fvs E τ σ ci j)) := by rw [gws_at hj, cellE_0 hkd, adr_of (by rw [hkd]; show (0 : Nat) ≠ 7; decide)]
  have hT : GoodIn wA (va_wsU own idx C owner x (md_y μ') (gcw μ' :: wA)) := good_cat hw hcw
  exact ⟨_, vx_runU (g := F0 m pc ls st) (nL := md_n μ) ⟨hx, hb, hml, by rw [← ho]; exact hown, hts⟩ (hm l hl0) (va_cwA nA hts hT (by rw [gcw_plain hh]) rfl rfl (hKK.2.2.2.2.1 _ hdc) hnm (groom ⟨hR.1, hR.2.1⟩ hd hn40)) ⟨gPc_blind _ _ _, va_recv hKK.1 hP hc1 he, fun U hU hW => ⟨rfl, hKK.moved hW, by rw [hU]; exact hH⟩⟩ rfl hnA hl.1 hst (lv_room hcat) hdg ⟨by rw [hR.2.2.1]; omega, by rw [hR.2.2.2]; omega⟩⟩
theorem g_callW {own : String} {idx ci j nA d' mc ms : Nat} {μ' : gMd} {As rest : List Value} {Q' : gO → gS → Prop} (hs : gSW own idx ci μ' nA) (ho : md_o μ = own) (hm : CT E μ' d' mc ms (.ref (gX E + j) :: As) σ Q') (hnx : ∀ En σ', ¬ Q' (.inr En) σ') (hkd : kd j = (0, ci)) (hj : j < gn σ) (hst : st = As.reverse ++ .ref (gX E + j) :: rest) (hnA : As.length = nA) (hcat : (rest.map fun v => v.category).sum ≤ 8) (hd : d' + 1 ≤ d) (hk : mc ≤ k) (hn : ms ≤ n) (hdg : decode (md_c μ) pc = .ok (.invokevirtual idx, 3))
    (kk : ∀ (v : Option Value) (σ' : gS), Q' (.inl v) σ' → gG E μ d Q (k - mc) (n - ms) σ' (pc + 3) lv (v.toList ++ rest)) : gG E μ d Q k n σ pc lv st := by
  refine g_runm hk hn (fun mcT msT p l e R s m args below meth c Z cx H locs cells slots ls hH hc hss hl => ?_) kk
  obtain ⟨hx, hb, hml, hown, hts, hKK, hR, hB, hl0, -⟩ := cx
  obtain ⟨C, T, N, hc1, hh, hw, hcw, hyC, hnm, hn40⟩ := hs
  obtain ⟨hBB, h572, hsz, τ, ht1, ht2, hP, hD⟩ := id hH
  have he : (gws E τ σ)[j]? = some (gX E + j, .inr (ci, fvs E τ σ ci j)) := by rw [gws_at hj, cellE_0 hkd, adr_of (by rw [hkd]; show (0 : Nat) ≠ 7; decide)]
  have hT : GoodIn wA (wsV own idx C (md_y μ') (gcw μ' :: wA)) := good_cat hw hcw
  have hcc : ∃ q hs, md_h μ' = q :: hs := by
    cases h : md_h μ' with
    | nil => exact absurd h hh
    | cons q hs => exact ⟨q, hs, rfl⟩
  obtain ⟨q, hs, hq⟩ := hcc
  have hcw' : gcw μ' = .codeWith (md_y μ') (md_c μ') (md_n μ') (md_r μ') (q :: hs) := by
    unfold gcw
    rw [hq]
  exact ⟨_, vx_runVW (g := F0 m pc ls st) (nL := md_n μ) ⟨hx, hb, hml, by rw [← ho]; exact hown, hts⟩ (hm.met hnx l hl0) (vx_cwVW nA hts hT (by rw [hcw']) rfl rfl ⟨hyC, hnm⟩ (groom ⟨hR.1, hR.2.1⟩ hd hn40)) ⟨gPc_blind _ _ _, va_recv hKK.1 hP hc1 he, fun U hU hW => ⟨rfl, hKK.moved hW, by rw [hU]; exact hH⟩⟩ rfl hnA hl.1 hst (lv_room hcat) hdg ⟨by rw [hR.2.2.1]; omega, by rw [hR.2.2.2]; omega⟩⟩
theorem g_callT {own : String} {idx nA d' mc ms : Nat} {μ' : gMd} {As rest : List Value} {Q' : gO → gS → Prop} (hs : gST own idx μ' nA) (ho : md_o μ = own) (hm : CT E μ' d' mc ms As σ Q') (hnx : ∀ En σ', ¬ Q' (.inr En) σ') (hst : st = As.reverse ++ rest) (hnA : As.length = nA) (hcat : (rest.map fun v => v.category).sum ≤ 8) (hd : d' + 1 ≤ d) (hk : mc ≤ k) (hn : ms ≤ n) (hdg : decode (md_c μ) pc = .ok (.invokestatic idx, 3))
    (kk : ∀ (v : Option Value) (σ' : gS), Q' (.inl v) σ' → gG E μ d Q (k - mc) (n - ms) σ' (pc + 3) lv (v.toList ++ rest)) : gG E μ d Q k n σ pc lv st := by
  refine g_runm hk hn (fun mcT msT p l e R s m args below meth c Z cx H locs cells slots ls hH hc hss hl => ?_) kk
  obtain ⟨hx, hb, hml, hown, hts, hKK, hR, hB, hl0, -⟩ := cx
  obtain ⟨hh, hw, hcw, hnm, hn40⟩ := hs
  have hT : GoodIn wA (va_wsS own idx (md_y μ') (gcw μ' :: wA)) := good_cat hw hcw
  have hcc : ∃ q hs, md_h μ' = q :: hs := by
    cases h : md_h μ' with
    | nil => exact absurd h hh
    | cons q hs => exact ⟨q, hs, rfl⟩
  obtain ⟨q, hs, hq⟩ := hcc
  have hcw' : gcw μ' = .codeWith (md_y μ') (md_c μ') (md_n μ') (md_r μ') (q :: hs) := by
    unfold gcw
    rw [hq]
  exact ⟨_, vx_runSW (g := F0 m pc ls st) (nL := md_n μ) ⟨hx, hb, hml, by rw [← ho]; exact hown, hts⟩ (hm.met hnx l hl0) (vx_cwSW nA hts hT (by rw [hcw']) rfl rfl hnm (groom ⟨hR.1, hR.2.1⟩ hd hn40)) ⟨gPc_blind _ _ _, fun U hU hW => ⟨rfl, hKK.moved hW, by rw [hU]; exact hH⟩⟩ rfl hnA hl.1 hst (lv_room hcat) hdg ⟨by rw [hR.2.2.1]; omega, by rw [hR.2.2.2]; omega⟩⟩
theorem g_callI {own : String} {idx j nA d' mc ms : Nat} {μ' : gMd} {As rest : List Value} {Q' : gO → gS → Prop} (hs : gSI own idx μ' nA) (ho : md_o μ = own) (hr0 : md_r μ' = none) (hm : CT E μ' d' mc ms (.ref (gX E + j) :: As) σ Q') (hnx : ∀ En σ', ¬ Q' (.inr En) σ') (hst : st = As.reverse ++ .ref (gX E + j) :: rest) (hnA : As.length = nA) (hcat : (rest.map fun v => v.category).sum ≤ 8) (hd : d' + 1 ≤ d) (hk : mc ≤ k) (hn : ms ≤ n) (hdg : decode (md_c μ) pc = .ok (.invokespecial idx, 3))
    (kk : ∀ (v : Option Value) (σ' : gS), Q' (.inl v) σ' → gG E μ d Q (k - mc) (n - ms) σ' (pc + 3) lv (v.toList ++ rest)) : gG E μ d Q k n σ pc lv st := by
  refine g_runm hk hn (fun mcT msT p l e R s m args below meth c Z cx H locs cells slots ls hH hc hss hl => ?_) kk
  obtain ⟨hx, hb, hml, hown, hts, hKK, hR, hB, hl0, -⟩ := cx
  obtain ⟨hh, hlk, hin, hini, hcw, hy1, hnm, hn40⟩ := hs
  exact ⟨_, va_runI (g := F0 m pc ls st) (nL := md_n μ) ⟨hx, hb, hml, by rw [← ho]; exact hown, hts⟩ (hm.met hnx l hl0) (cwI nA hts (good_one hcw) (by rw [gcw_plain hh, hr0]) rfl rfl (hts _ hini) (hts _ hlk) (hts _ hin) hy1 hnm (groom ⟨hR.1, hR.2.1⟩ hd hn40)) ⟨gPc_blind _ _ _, fun U hU hW => ⟨rfl, hKK.moved hW, by rw [hU]; exact hH⟩⟩ rfl hnA hl.1 hst (lv_room hcat) hdg ⟨by rw [hR.2.2.1]; omega, by rw [hR.2.2.2]; omega⟩⟩
theorem g_callJ {own : String} {idx j nA d' mc ms : Nat} {μ' : gMd} {As rest : List Value} {Q' : gO → gS → Prop} (hs : gSJ own idx μ' nA) (ho : md_o μ = own) (hr0 : md_r μ' = none) (hm : CT E μ' d' mc ms (.ref (gX E + j) :: As) σ Q') (hnx : ∀ En σ', ¬ Q' (.inr En) σ') (hst : st = As.reverse ++ .ref (gX E + j) :: rest) (hnA : As.length = nA) (hcat : (rest.map fun v => v.category).sum ≤ 8) (hd : d' + 1 ≤ d) (hk : mc ≤ k) (hn : ms ≤ n) (hdg : decode (md_c μ) pc = .ok (.invokespecial idx, 3))
    (kk : ∀ (v : Option Value) (σ' : gS), Q' (.inl v) σ' → gG E μ d Q (k - mc) (n - ms) σ' (pc + 3) lv (v.toList ++ rest)) : gG E μ d Q k n σ pc lv st := by
  refine g_runm hk hn (fun mcT msT p l e R s m args below meth c Z cx H locs cells slots ls hH hc hss hl => ?_) kk
  obtain ⟨hx, hb, hml, hown, hts, hKK, hR, hB, hl0, -⟩ := cx
  obtain ⟨host, hh, hlk, hin, hini, hcw, hy1, hnm, hn40⟩ := hs
  exact ⟨_, va_runIN (g := F0 m pc ls st) (nL := md_n μ) ⟨hx, hb, hml, by rw [← ho]; exact hown, hts⟩ (hm.met hnx l hl0) ⟨va_cnB nA hts (good_one hcw) (by rw [gcw_plain hh, hr0]) rfl rfl (hKK.2.2.2.2.1 _ hlk) (hts _ hini) hnm (groom ⟨hR.1, hR.2.1⟩ hd hn40), hy1, hts _ hin⟩ ⟨gPc_blind _ _ _, fun U hU hW => ⟨rfl, hKK.moved hW, by rw [hU]; exact hH⟩⟩ rfl hnA hl.1 hst (lv_room hcat) hdg ⟨by rw [hR.2.2.1]; omega, by rw [hR.2.2.2]; omega⟩⟩
/-- OWED: throw new NoSuchElementException("..") -/
theorem g_throwN {own : String} {ik is ic : Nat} (hl0 : md_l μ = false) (hs : gTn own ik is ic) (ho : md_o μ = own) (hh : md_h μ = []) (hn : gn σ = 572) (hd : 7 ≤ d) (hk : 1 ≤ k) (hn6 : 6 ≤ n) (hst : (st.map fun v => v.category).sum ≤ 8)
    (d0 : decode (md_c μ) pc = .ok (.new ik, 3)) (d3 : decode (md_c μ) (pc + 3) = .ok (.dup, 1)) (d4 : decode (md_c μ) (pc + 4) = .ok (.ldc is, 2)) (d6 : decode (md_c μ) (pc + 6) = .ok (.invokespecial ic, 3)) (d9 : decode (md_c μ) (pc + 9) = .ok (.athrow, 1)) (hq : Q (.inr "java/util/NoSuchElementException") σ) : gG E μ d Q k n σ pc lv st := by
  sorry
theorem g_throwNW {own : String} {ik is ic : Nat} (hl0 : md_l μ = false) (hs : gTn own ik is ic) (ho : md_o μ = own) (hh : md_h μ = []) (hn : gn σ = 572) (hd : 7 ≤ d) (hk : 1 ≤ k) (hn6 : 6 ≤ n) (hst : (st.map fun v => v.category).sum ≤ 8)
    (d0 : decode (md_c μ) pc = .ok (.new ik, 3)) (d3 : decode (md_c μ) (pc + 3) = .ok (.dup, 1)) (d4 : decode (md_c μ) (pc + 4) = .ok (.ldc_w is, 3)) (d7 : decode (md_c μ) (pc + 7) = .ok (.invokespecial ic, 3)) (d10 : decode (md_c μ) (pc + 10) = .ok (.athrow, 1)) (hq : Q (.inr "java/util/NoSuchElementException") σ) : gG E μ d Q k n σ pc lv st := by
  sorry
end GCALL2
