/-! the flat machine: cells are made -/
section INIT
theorem gws_push {E : gE} {τ τ' : gT} {σ σ' : gS} (hn : gn σ' = gn σ + 1) (ho : ∀ i, i < gn σ → adr E τ' i = adr E τ i ∧ cellE E τ' σ' i = cellE E τ σ i) : gws E τ' σ' = gws E τ σ ++ [(adr E τ' (gn σ), cellE E τ' σ' (gn σ))] := by
  apply List.ext_getElem?
  intro i
  by_cases hi : i < gn σ
  · rw [List.getElem?_append_left (by rw [gws_len]; exact hi), gws_at (σ := σ') (by omega), gws_at hi, (ho i hi).1, (ho i hi).2]
  · rw [List.getElem?_append_right (by rw [gws_len]; omega), gws_len]
    by_cases e : i = gn σ
    · subst e
      rw [Nat.sub_self, gws_at (σ := σ') (by omega)]
      rfl
    · rw [List.getElem?_eq_none (by rw [gws_len]; omega), List.getElem?_eq_none (by simp only [List.length_cons, List.length_nil]; omega)]
theorem gHH_push {E : gE} {σ σ' : gS} {H H1 H0 : Heap} {locs : List Loc} {τ τ' : gT} (hB : gB E H) (hn : gn σ < 572) (hsz : H.size = gX E + gn σ) (h1 : gTx σ' 554 τ'.1) (h2 : gTx σ' 557 τ'.2) (hP : va_P E.1 gcl (gws E τ σ) H) (hD : va_D (gA E) (gws E τ σ)) (hn' : gn σ' = gn σ + 1) (ho : ∀ i, i < gn σ → adr E τ' i = adr E τ i ∧ cellE E τ' σ' i = cellE E τ σ i) (hadr : adr E τ' (gn σ) = H.size) (hz : H1.size = H.size + 1) (hk : ∀ q, q < H.size → H1[q]? = H[q]?) (hat : va_at E.1 gcl (H.size, cellE E τ' σ' (gn σ)) H1) (hB0 : gB E H0) (hS : va_S (gA E) H0 H locs) : gHH E σ' H1 ∧ va_S (gA E) H0 H1 locs := by
  have hS1 : va_S (gA E) H0 H1 locs := ⟨by have := hS.1; omega, fun q g1 g2 => (hk q (Nat.lt_of_lt_of_le g1 hS.1)).trans (hS.2.1 q g1 g2), hS.2.2⟩
  have hA : gA E H.size := by
    show gX E ≤ H.size
    omega
  refine ⟨⟨gB_S hB0 hS1, by omega, fun _ => by rw [hz, hsz, hn']; omega, τ', h1, h2, ?_, ?_⟩, hS1⟩
  · rw [gws_push hn' ho]
    refine (hP.kept (fun k q hq => hk q.1 (hP k q hq).lt)).app (fun k x hx => ?_)
    have hz9 : k < 1 := (List.getElem?_eq_some_iff.mp hx).1
    rw [show k = 0 by omega] at hx
    cases hx
    rw [hadr]
    exact hat
  · rw [gws_push hn' ho, hadr]
    exact hD.push hP rfl hA
variable {E : gE} {μ : gMd} {d : Nat} {Q : gO → gS → Prop} {k n : Nat} {σ : gS} {pc : Nat} {lv : List (Nat × Value)} {st : List Value}
/-- what a new object of class ci holds -/
def dz (ci k : Nat) : Value := if fcode ci k = 0 ∨ fcode ci k = 1002 then .int 0 else .null
/-- a site of 'new' -/
def gNw (own : String) (idx ci : Nat) : Prop := ∃ (C : String) (T : u_T) (N : Nat) (ty0 : Nat → FieldType), gcl[ci]? = some (C, T, N) ∧ nf ci = N ∧ (∀ w ∈ u_ws C T N, w ∈ wA) ∧ (∀ k, k < N → parseFieldDescriptor (T k).2.2.1 = some (ty0 k)) ∧ (∀ k, k < N → defaultValue (ty0 k) = dz ci k) ∧ Cond.classLink own idx C ∈ wA ∧ Cond.instantiable C N ∈ wA ∧ Cond.initialized C ∈ wA
/-- a state with one cell more -/
abbrev sN (σ : gS) : gS := (gn σ + 1, σ.2)
theorem gTx_sN {σ : gS} {j : Nat} {w : gT1} (h : gTx σ j w) : gTx (sN σ) j w := h
theorem cellE_sN {τ : gT} {i : Nat} : cellE E τ (sN σ) i = cellE E τ σ i := rfl
theorem fv_dz {τ : gT} {ci j k : Nat} (hR : ∀ k, gR σ j k = false) (hM : gM σ j = fun _ => 0) (h2 : fcode ci k = 1002 → (if j = 554 then τ.1.2.2.2 else τ.2.2.2.2) = 0) : fv E τ σ ci j k = dz ci k := by
  unfold fv dz
  rw [hM, hR]
  by_cases h0 : fcode ci k = 0
  · rw [if_pos h0, if_pos (Or.inl h0)]
  · rw [if_neg h0]
    by_cases h3 : fcode ci k = 1002
    · rw [if_neg (show ¬ fcode ci k = 1000 by omega), if_neg (show ¬ fcode ci k = 1001 by omega), if_pos h3, if_pos (show fcode ci k = 0 ∨ fcode ci k = 1002 from Or.inr h3), h2 h3]
    · rw [if_neg (show ¬ (fcode ci k = 0 ∨ fcode ci k = 1002) from fun q => q.elim h0 h3)]
      by_cases h4 : fcode ci k = 1000
      · rw [if_pos h4]
        rfl
      · rw [if_neg h4]
        by_cases h5 : fcode ci k = 1001
        · rw [if_pos h5]
          rfl
        · rw [if_neg h5, if_neg h3]
          rfl
theorem g_newX {own : String} {idx ci : Nat} (τf : gT → gT) (hs : gNw own idx ci) (ho : md_o μ = own) (hkd : kd (gn σ) = (0, ci)) (hn : gn σ < 572) (hR : ∀ k, gR σ (gn σ) k = false) (hM : gM σ (gn σ) = fun _ => 0) (hk : 1 ≤ k) (hn2 : nf ci ≤ n)
    (ht1 : ∀ τ : gT, gTx σ 554 τ.1 → gTx σ 554 (τf τ).1) (ht2 : ∀ τ : gT, gTx σ 557 τ.2 → gTx σ 557 (τf τ).2) (hold : ∀ (τ : gT) (i : Nat), i < gn σ → adr E (τf τ) i = adr E τ i ∧ cellE E (τf τ) σ i = cellE E τ σ i) (hfl : ∀ (τ : gT) (k : Nat), fcode ci k = 1002 → (if gn σ = 554 then (τf τ).1.2.2.2 else (τf τ).2.2.2.2) = 0)
    (hdg : decode (md_c μ) pc = .ok (.new idx, 3)) (kk : gG E μ d Q (k - 1) (n - nf ci) (sN σ) (pc + 3) lv (.ref (gX E + gn σ) :: st)) : gG E μ d Q k n σ pc lv st := by
  intro mcT msT p l e R s m args below meth c Z cx H locs cells slots ls hH hS hc hss hl
  have cx0 := cx
  obtain ⟨hx, hb, hml, hown, hts, hKK, hR9, hB, -⟩ := cx0
  obtain ⟨C, T, N, ty0, hc1, hnf, hw, hty, hdv, hcl, hin, hini⟩ := hs
  obtain ⟨hBB, h572, hsz, τ, g1, g2, hP, hD⟩ := id hH
  have hKn := hKK.1.1 ci _ hc1
  have hsz := hsz hn
  refine W.newcK hx hb (by rw [← ho]; exact hown) (hts _ hcl) (hts _ hin) (hts _ hini) rfl hdg (by rw [hR9.2.2.1]; omega) (by rw [hR9.2.2.2]; omega) hKn.2.1 rfl fun H1 kC hkC e1 z1 o1 => ?_
  have hkd7 : (kd (gn σ)).1 ≠ 7 := by rw [hkd]; show (0 : Nat) ≠ 7; decide
  obtain ⟨k1, k2⟩ := gHH_push (σ' := sN σ) (τ' := τf τ) hBB hn hsz (gTx_sN (ht1 τ g1)) (gTx_sN (ht2 τ g2)) hP hD rfl (fun i hi => hold τ i hi) ((adr_of hkd7).trans hsz.symm) z1 o1 (by
    rw [cellE_sN, cellE_0 hkd]
    refine ⟨_, hc1, (u_born ty0 (fun w hw' => hts w (hw w hw')) (fun w h => h) hKn hkC e1 hty).to (fun j hj => ?_)⟩
    show defaultValue (ty0 j) = vp_V (fvs E (τf τ) σ ci (gn σ)) j
    unfold vp_V
    rw [hdv j hj]
    have h9 : (fvs E (τf τ) σ ci (gn σ))[j]? = some (dz ci j) := by rw [fvs_at (by rw [hnf]; exact hj), fv_dz hR hM (hfl τ j)]
    rw [List.getD_eq_getElem?_getD, h9]
    rfl) hB hS
  rw [hsz]
  exact kk _ _ _ _ _ _ _ _ _ _ _ _ _ cx H1 locs (cells + 1) (slots + N) ls k1 k2 (by omega) (by rw [← hnf]; omega) hl
theorem g_new {own : String} {idx ci : Nat} (hs : gNw own idx ci) (ho : md_o μ = own) (hkd : kd (gn σ) = (0, ci)) (hn : gn σ < 572) (hR : ∀ k, gR σ (gn σ) k = false) (hM : gM σ (gn σ) = fun _ => 0) (h10 : ∀ k, fcode ci k ≠ 1002) (hk : 1 ≤ k) (hn2 : nf ci ≤ n) (hdg : decode (md_c μ) pc = .ok (.new idx, 3)) (kk : gG E μ d Q (k - 1) (n - nf ci) (sN σ) (pc + 3) lv (.ref (gX E + gn σ) :: st)) : gG E μ d Q k n σ pc lv st :=
  g_newX (fun τ => τ) hs ho hkd hn hR hM hk hn2 (fun _ h => h) (fun _ h => h) (fun _ _ _ => ⟨rfl, rfl⟩) (fun _ k h => absurd h (h10 k)) hdg kk
/-- a builder -/
theorem g_newB {own : String} {idx : Nat} (hs : gNw own idx 10) (ho : md_o μ = own) (hj : gn σ = 554 ∨ gn σ = 557) (hR : ∀ k, gR σ (gn σ) k = false) (hM : gM σ (gn σ) = fun _ => 0) (hk : 1 ≤ k) (hn2 : 4 ≤ n) (hdg : decode (md_c μ) pc = .ok (.new idx, 3)) (kk : gG E μ d Q (k - 1) (n - 4) (sN σ) (pc + 3) lv (.ref (gX E + gn σ) :: st)) : gG E μ d Q k n σ pc lv st := by
  have hx : gTx σ (gn σ) (0, 0, fun _ => 0, 0) := ⟨sb_fit0, by rw [hM], Or.inl rfl, 0, by rw [hM]; rfl, Nat.le_refl _, by show 0 ≤ 256; decide, fun i hi => absurd hi (Nat.not_lt_zero i)⟩
  refine g_newX (ci := 10) (fun τ => ts τ (gn σ) (0, 0, fun _ => 0, 0)) hs ho (kdB hj) (by omega) hR hM hk hn2 (fun τ h => ?_) (fun τ h => ?_) (fun τ i hi => ?_) (fun τ k h => ?_) hdg kk
  · rcases hj with e | e
    · rw [e] at hx ⊢
      exact hx
    · rw [e]
      exact h
  · rcases hj with e | e
    · rw [e]
      exact h
    · rw [e] at hx ⊢
      exact hx
  · rcases hj with e | e
    · rw [e] at hi ⊢
      have hc := cellE_not10 (E := E) (τ := τ) (τ' := ts τ 554 (0, 0, fun _ => 0, 0)) (σ := σ) (i := i) (by omega) (by omega) (by omega) (by omega)
      refine ⟨?_, hc⟩
      unfold adr
      rw [if_neg (by omega), if_neg (by omega), if_neg (by omega), if_neg (by omega)]
    · rw [e] at hi ⊢
      by_cases h4 : i = 554
      · subst h4
        exact ⟨rfl, rfl⟩
      · by_cases h5 : i = 555
        · subst h5
          exact ⟨rfl, rfl⟩
        · refine ⟨?_, cellE_not10 h4 h5 (by omega) (by omega)⟩
          unfold adr
          rw [if_neg h5, if_neg (by omega), if_neg h5, if_neg (by omega)]
  · rcases hj with e | e
    · rw [e]
      rfl
    · rw [e]
      rfl
/-- new arrays -/
theorem gar_of {s : State} {t : Nat} {ty : FieldType} {cA c2 : ClassId} (hK : va_K E.1 gcl (gtys E) s) (ht : (gtys E)[t]? = some (c2, ty)) (hra : va_RA s c2 ty = (s.vm.findClass ("[" ++ ty.toString) = some c2)) (h : s.vm.findClass ("[" ++ ty.toString) = some cA) : cA = c2 := by
  have h1 := (hK.2 t _ ht).2
  rw [hra] at h1
  exact Option.some.inj (h.symm.trans h1)
theorem g_newaX {atype : ArrayType} {x : Int32} {N t : Nat} {c2 : ClassId} {ty : FieldType} {a0 : vp_A} (hty : newarray.typeOf atype = ty) (hx0 : x = nI N) (hN : N ≤ 65536) (ht : (gtys E)[t]? = some (c2, ty)) (hra : ∀ s : State, va_RA s c2 ty = (s.vm.findClass ("[" ++ ty.toString) = some c2)) (ha : ∀ cA : ClassId, vp_cell cA a0 = arrV cA N (fun _ => defaultValue ty)) (hcell : ∀ τ : gT, cellE E τ σ (gn σ) = .inl (c2, a0)) (hbytes : N * componentBytes ty ≤ 536870912) (hw : Cond.arrayClass ty ∈ wA) (hkd : (kd (gn σ)).1 ≠ 7) (hn : gn σ < 572) (hk : 1 ≤ k) (hn2 : N ≤ n) (hdg : decode (md_c μ) pc = .ok (.newarray atype, 2)) (kk : gG E μ d Q (k - 1) (n - N) (sN σ) (pc + 2) lv (.ref (gX E + gn σ) :: st)) : gG E μ d Q k n σ pc lv (.int x :: st) := by
  subst hx0
  subst hty
  intro mcT msT p l e R s m args below meth c Z cx H locs cells slots ls hH hS hc hss hl
  have cx0 := cx
  obtain ⟨hx, hb, hml, hown, hts, hKK, hR9, hB, -⟩ := cx0
  obtain ⟨hBB, h572, hsz, τ, g1, g2, hP, hD⟩ := id hH
  have hsz := hsz hn
  refine va_newaK hx hb (hts _ hw) rfl hdg rfl (nI_pos (by omega)) (nI_clamp (by omega)) hbytes (by rw [hR9.2.2.1]; omega) (by rw [hR9.2.2.2]; omega) rfl fun H1 cA e1 z1 o1 hAr hNm => ?_
  obtain rfl := gar_of hKK.1 ht (hra s) hNm
  obtain ⟨k1, k2⟩ := gHH_push (σ' := sN σ) (τ' := τ) hBB hn hsz (gTx_sN g1) (gTx_sN g2) hP hD rfl (fun i hi => ⟨rfl, rfl⟩) ((adr_of hkd).trans hsz.symm) z1 o1 (by
    rw [cellE_sN, hcell]
    show H1[H.size]? = some (vp_cell _ _)
    rw [ha]
    exact e1) hB hS
  rw [hsz]
  exact kk _ _ _ _ _ _ _ _ _ _ _ _ _ cx H1 locs (cells + 1) (slots + N) ls k1 k2 (by omega) (by omega) hl
theorem g_newi {x : Int32} {N : Nat} (hx0 : x = nI N) (hN : N ≤ 65536) (hkd : kd (gn σ) = (1, N)) (hM : gM σ (gn σ) = fun _ => 0) (hn : gn σ < 572) (hk : 1 ≤ k) (hn2 : N ≤ n) (hw : Cond.arrayClass .int ∈ wA) (hdg : decode (md_c μ) pc = .ok (.newarray .int, 2)) (kk : gG E μ d Q (k - 1) (n - N) (sN σ) (pc + 2) lv (.ref (gX E + gn σ) :: st)) : gG E μ d Q k n σ pc lv (.int x :: st) :=
  g_newaX (t := 0) (c2 := gar E 0) (ty := .int) (a0 := (N, .inl (fun _ => 0))) rfl hx0 hN rfl (fun _ => rfl) (fun _ => rfl) (fun τ => by rw [cellE_1 hkd, hM]) (by show N * 4 ≤ 536870912; omega) hw (by rw [hkd]; show (1 : Nat) ≠ 7; decide) hn hk hn2 hdg kk
theorem g_newc {x : Int32} {N : Nat} (hx0 : x = nI N) (hN : N ≤ 65536) (hkd : kd (gn σ) = (2, N)) (hM : gM σ (gn σ) = fun _ => 0) (hn : gn σ < 572) (hk : 1 ≤ k) (hn2 : N ≤ n) (hw : Cond.arrayClass .char ∈ wA) (hdg : decode (md_c μ) pc = .ok (.newarray .char, 2)) (kk : gG E μ d Q (k - 1) (n - N) (sN σ) (pc + 2) lv (.ref (gX E + gn σ) :: st)) : gG E μ d Q k n σ pc lv (.int x :: st) :=
  g_newaX (t := 1) (c2 := gar E 1) (ty := .char) (a0 := (N, .inl (fun _ => 0))) rfl hx0 hN rfl (fun _ => rfl) (fun _ => rfl) (fun τ => by rw [cellE_2 hkd, hM]) (by show N * 2 ≤ 536870912; omega) hw (by rw [hkd]; show (2 : Nat) ≠ 7; decide) hn hk hn2 hdg kk
theorem g_newl {x : Int32} {N : Nat} (hx0 : x = nI N) (hN : N ≤ 65536) (hkd : kd (gn σ) = (3, N)) (hM : gL σ (gn σ) = fun _ => 0) (hn : gn σ < 572) (hk : 1 ≤ k) (hn2 : N ≤ n) (hw : Cond.arrayClass .long ∈ wA) (hdg : decode (md_c μ) pc = .ok (.newarray .long, 2)) (kk : gG E μ d Q (k - 1) (n - N) (sN σ) (pc + 2) lv (.ref (gX E + gn σ) :: st)) : gG E μ d Q k n σ pc lv (.int x :: st) :=
  g_newaX (t := 2) (c2 := gar E 2) (ty := .long) (a0 := (N, .inr (.inl (fun _ => 0)))) rfl hx0 hN rfl (fun _ => rfl) (fun _ => rfl) (fun τ => by rw [cellE_3 hkd, hM]) (by show N * 8 ≤ 536870912; omega) hw (by rw [hkd]; show (3 : Nat) ≠ 7; decide) hn hk hn2 hdg kk
theorem g_newd {x : Int32} {N : Nat} (hx0 : x = nI N) (hN : N ≤ 65536) (hkd : kd (gn σ) = (6, N)) (hM : gF σ = fun _ => 0) (hn : gn σ < 572) (hk : 1 ≤ k) (hn2 : N ≤ n) (hw : Cond.arrayClass .double ∈ wA) (hdg : decode (md_c μ) pc = .ok (.newarray .double, 2)) (kk : gG E μ d Q (k - 1) (n - N) (sN σ) (pc + 2) lv (.ref (gX E + gn σ) :: st)) : gG E μ d Q k n σ pc lv (.int x :: st) :=
  g_newaX (t := 5) (c2 := gar E 5) (ty := .double) (a0 := (N, .inr (.inr (.inr (.inl (fun _ => 0)))))) rfl hx0 hN rfl (fun _ => rfl) (fun _ => rfl) (fun τ => by rw [cellE_6 hkd, hM]) (by show N * 8 ≤ 536870912; omega) hw (by rw [hkd]; show (6 : Nat) ≠ 7; decide) hn hk hn2 hdg kk
theorem arrV_rep (cA : ClassId) (N : Nat) (v : Value) : arrV cA N (fun _ => v) = { cls := cA, slots := Array.replicate N v, vm := .none } := by
  unfold arrV
  congr 1
  apply Array.ext
  · simp
  · intro i h1 h2
    simp
/-- the ring's row of books -/
theorem g_newK {own : String} {idx : Nat} {x : Int32} (hx0 : x = 9) (ho : md_o μ = own) (hcl : Cond.classLink own idx "PaperBoatInsurer$Book" ∈ wA) (hn : gn σ = 102) (hR : ∀ k, gR σ 102 k = false) (hk : 1 ≤ k) (hn2 : 9 ≤ n) (hdg : decode (md_c μ) pc = .ok (.anewarray idx, 3)) (kk : gG E μ d Q (k - 1) (n - 9) (sN σ) (pc + 3) lv (.ref (gX E + 102) :: st)) : gG E μ d Q k n σ pc lv (.int x :: st) := by
  subst hx0
  intro mcT msT p l e R s m args below meth c Z cx H locs cells slots ls hH hS hc hss hl
  have cx0 := cx
  obtain ⟨hx, hb, hml, hown, hts, hKK, hR9, hB, -⟩ := cx0
  obtain ⟨hBB, h572, hsz, τ, g1, g2, hP, hD⟩ := id hH
  have hsz := hsz (by omega)
  have e9 : (9 : Int32).toNatClampNeg = 9 := by decide
  refine W.anew hx hb (by rw [← ho]; exact hown) (hts _ hcl) (va_AO.use (gvb hKK).2.2.2.2.2.2.2.2.2.2.2.2.2.2.2.1) rfl hdg rfl (by decide) (by decide) (by rw [hR9.2.2.1]; omega) (by rw [hR9.2.2.2, e9]; omega) fun cA kA comp h1 h2 h3 h4 => ?_
  rw [e9]
  have hc4 : cA = gar E 4 := by
    obtain ⟨kA', comp', -, -, -, h9⟩ := (hKK.1.2 4 (gar E 4, .object "PaperBoatInsurer$Book") rfl).2
    exact Option.some.inj (h1.symm.trans h9)
  subst hc4
  obtain ⟨k1, k2⟩ := gHH_push (σ' := sN σ) (τ' := τ) (H1 := H.push { cls := gar E 4, slots := Array.replicate 9 .null, vm := .none }) hBB (by omega) hsz (gTx_sN g1) (gTx_sN g2) hP hD rfl (fun i hi => ⟨rfl, rfl⟩) ((adr_of (by rw [hn]; decide)).trans hsz.symm) (by simp) (fun q hq => by rw [Array.getElem?_push]; exact if_neg (by omega)) (by
    rw [cellE_sN, hn, cellE_5 (N := 9) (by decide)]
    show (H.push _)[H.size]? = some (vp_cell (gar E 4) (9, _))
    rw [vp_cell_q, show (fun j => va_rf (if gR σ 102 j = true then some (gX E + (103 + 50 * j)) else none)) = (fun _ => Value.null) from funext fun j => by rw [hR]; rfl, arrV_rep]
    simp) hB hS
  rw [hsz, hn]
  exact kk _ _ _ _ _ _ _ _ _ _ _ _ _ cx _ locs (cells + 1) (slots + 9) ls k1 k2 (by omega) (by omega) hl
/-- Object.<init> -/
def gOi0 (own : String) (idx : Nat) : Prop := Cond.methodLink own idx Lib.objectInit ∈ wA ∧ Cond.instanceMethod Lib.objectInit ∈ wA ∧ Cond.code Lib.objectInit ⟨#[0xb1]⟩ 1 none ∈ wA
theorem g_oinit {own : String} {idx a : Nat} (hs : gOi0 own idx) (ho : md_o μ = own) (hd : 1 ≤ d) (hcat : (st.map fun v => v.category).sum ≤ 8) (hdg : decode (md_c μ) pc = .ok (.invokespecial idx, 3)) (kk : gG E μ d Q k n σ (pc + 3) lv st) : gG E μ d Q k n σ pc lv (.ref a :: st) := by
  intro mcT msT p l e R s m args below meth c Z cx H locs cells slots ls hH hS hc hss hl
  have cx0 := cx
  obtain ⟨hx, hb, hml, hown, hts, hKK, hR9, hB, -⟩ := cx0
  exact W.objInit hx hb (by rw [← ho]; exact hown) (hts _ hs.1) (hts _ hs.2.1) (hts _ hs.2.2) rfl (by show ls.size = _; rw [hml, hl.1]) rfl hdg (by omega) (by show 2 * 0 + _ + 12 ≤ _; omega) (kk _ _ _ _ _ _ _ _ _ _ _ _ _ cx H locs cells slots ls hH hS hc hss hl)
/-- a store of what is there -/
theorem g_puts {own : String} {idx ci kf j : Nat} {ty : FieldType} {x : Value} (hf : gFq own idx ci kf ty false) (ho : md_o μ = own) (hkd : kd j = (0, ci)) (hj : j < gn σ) (hv : ∀ τ, fv E τ σ ci j kf = x) (hn : narrow ty x = x) (hfit : fits ty x = true) (hdg : decode (md_c μ) pc = .ok (.putfield idx, 3)) (kk : gG E μ d Q k n σ (pc + 3) lv st) : gG E μ d Q k n σ pc lv (x :: .ref (gX E + j) :: st) := by
  intro mcT msT p l e R s m args below meth c Z cx H locs cells slots ls hH hS hc hss hl
  have cx0 := cx
  obtain ⟨hx, hb, hml, hown, hts, hKK, hR, hB, -⟩ := cx0
  obtain ⟨C, T, N, ref, ty0, hc1, hk, hnf, hw, hlk, hsm, hty, hnm, hfin, -, hd⟩ := hf
  obtain ⟨hBB, h572, hsz, τ, ht1, ht2, hP, hD⟩ := id hH
  have hkd7 : (kd j).1 ≠ 7 := by rw [hkd]; show (0 : Nat) ≠ 7; decide
  have he : (gws E τ σ)[j]? = some (gX E + j, .inr (ci, fvs E τ σ ci j)) := by rw [gws_at hj, cellE_0 hkd, adr_of hkd7]
  refine va_put2 (D := E.1) (ci := ci) (v := x) hx hb hts hw ty0 hty hnm (by rw [← ho]; exact hown) hKK.1 hP hD hS j he hc1 kf hk (hts _ hlk) (gsame hts hsm) (Or.inl hfin) hd hn hfit (by rw [fvs_len, hnf]; exact hk) hdg (fun H1 locs1 hz1 hP1 hD1 hS1 => ?_)
  have e1 : (fvs E τ σ ci j).set kf x = fvs E τ σ ci j := by
    have h9 : (fvs E τ σ ci j)[kf]? = some x := by rw [fvs_at (by rw [hnf]; exact hk), hv]
    apply List.ext_getElem?
    intro i
    rw [List.getElem?_set]
    by_cases e : kf = i
    · subst e
      rw [if_pos rfl, if_pos (by rw [fvs_len, hnf]; exact hk), h9]
    · rw [if_neg e]
  have e2 : (gws E τ σ).set j (gX E + j, .inr (ci, (fvs E τ σ ci j).set kf x)) = gws E τ σ := by
    rw [e1]
    apply List.ext_getElem?
    intro i
    rw [List.getElem?_set]
    by_cases e : j = i
    · subst e
      rw [if_pos rfl, if_pos (by rw [gws_len]; exact hj), he]
    · rw [if_neg e]
  rw [e2] at hP1 hD1
  exact kk _ _ _ _ _ _ _ _ _ _ _ _ _ cx H1 locs1 cells slots ls ⟨gB_S hB hS1, h572, fun h => by rw [hz1]; exact hsz h, τ, ht1, ht2, hP1, hD1⟩ hS1 hc hss hl
theorem arrV_congr {cA : ClassId} {N : Nat} {f g : Nat → Value} (h : ∀ k, k < N → f k = g k) : arrV cA N f = arrV cA N g := by
  unfold arrV
  congr 1
  apply Array.ext
  · simp
  · intro i h1 h2
    simp only [Array.getElem_ofFn]
    exact h i (by simpa using h1)
/-- bits that no cell reads -/
theorem g_bits {R' : Nat → Nat → Bool} (h : ∀ i, i < gn σ → (((kd i).1 = 0 → ∀ k, k < nf (kd i).2 → fcode (kd i).2 k ≠ 0 → fcode (kd i).2 k ≠ 1000 → fcode (kd i).2 k ≠ 1002 → R' i k = gR σ i k) ∧ ((kd i).1 = 5 → ∀ k, k < (kd i).2 → R' i k = gR σ i k))) (kk : gG E μ d Q k n (gn σ, R', gM σ, gL σ, gF σ) pc lv st) : gG E μ d Q k n σ pc lv st := by
  intro mcT msT p l e R s m args below meth c Z cx H locs cells slots ls hH hS hc hss hl
  obtain ⟨hBB, h572, hsz, τ, ht1, ht2, hP, hD⟩ := id hH
  have key : ∀ i, i < gn σ → (kd i).1 ≠ 5 → cellE E τ (gn σ, R', gM σ, gL σ, gF σ) i = cellE E τ σ i := by
    intro i hi h5
    obtain ⟨h1, h2⟩ := h i hi
    unfold cellE
    by_cases h0 : (kd i).1 = 0
    · rw [if_pos h0, if_pos h0]
      congr 2
      unfold fvs
      refine List.map_congr_left fun q hq => ?_
      have hq := List.mem_range.mp hq
      have h9 := h1 h0 q hq
      unfold fv
      by_cases c0 : fcode (kd i).2 q = 0
      · rw [if_pos c0, if_pos c0]
      · rw [if_neg c0, if_neg c0]
        by_cases c1 : fcode (kd i).2 q = 1000
        · rw [if_pos c1, if_pos c1]
        · rw [if_neg c1, if_neg c1]
          by_cases c2 : fcode (kd i).2 q = 1002
          · rw [if_neg (show ¬ fcode (kd i).2 q = 1001 by omega), if_neg (show ¬ fcode (kd i).2 q = 1001 by omega), if_pos c2, if_pos c2]
          · have h9 := h9 c0 c1 c2
            rw [if_neg c2, if_neg c2, show gR (gn σ, R', gM σ, gL σ, gF σ) i q = gR σ i q from h9]
    · rw [if_neg h0, if_neg h0, if_neg h5, if_neg h5]
  have hat : ∀ (i : Nat) (x : Nat × va_E), (gws E τ (gn σ, R', gM σ, gL σ, gF σ))[i]? = some x → ∃ y, (gws E τ σ)[i]? = some y ∧ x.1 = y.1 ∧ (va_at E.1 gcl y H → va_at E.1 gcl x H) := by
    intro i x hx
    have hi : i < gn σ := by
      have := (List.getElem?_eq_some_iff.mp hx).1
      rw [gws_len] at this
      exact this
    rw [gws_at (σ := (gn σ, R', gM σ, gL σ, gF σ)) hi] at hx
    cases hx
    refine ⟨_, gws_at hi, rfl, fun hy => ?_⟩
    by_cases h5 : (kd i).1 = 5
    · have hk : kd i = (5, (kd i).2) := by rw [← h5]
      rw [cellE_5 hk] at hy ⊢
      have h9 := (h i hi).2 h5
      show H[_]? = some (vp_cell _ _)
      have hy : H[adr E τ i]? = some (vp_cell (gar E 4) ((kd i).2, .inr (.inr (.inr (.inr (fun q => if gR σ i q = true then some (gX E + (103 + 50 * q)) else none)))))) := hy
      rw [hy, vp_cell_q, vp_cell_q]
      congr 1
      refine arrV_congr fun q hq => ?_
      rw [show gR (gn σ, R', gM σ, gL σ, gF σ) i q = gR σ i q from h9 q hq]
    · rw [key i hi h5]
      exact hy
  refine kk _ _ _ _ _ _ _ _ _ _ _ _ _ cx H locs cells slots ls ⟨hBB, h572, hsz, τ, ht1, ht2, fun i x hx => ?_, fun i j x y hx hy e => ?_, fun i x hx => ?_⟩ hS hc hss hl
  · obtain ⟨y, hy, -, h9⟩ := hat i x hx
    exact h9 (hP i y hy)
  · obtain ⟨x', hx', e1, -⟩ := hat i x hx
    obtain ⟨y', hy', e2, -⟩ := hat j y hy
    exact hD.1 i j x' y' hx' hy' (by rw [← e1, ← e2]; exact e)
  · obtain ⟨x', hx', e1, -⟩ := hat i x hx
    rw [e1]
    exact hD.2 i x' hx'
end INIT
