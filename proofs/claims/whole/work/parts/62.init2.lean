/-! the flat machine: cells are made, 2: the ring, the builder's bytes, grids -/
section INIT2
variable {E : gE} {μ : gMd} {d : Nat} {Q : gO → gS → Prop} {k n : Nat} {σ : gS} {pc : Nat} {lv : List (Nat × Value)} {st : List Value}
theorem kd_ring {i : Nat} (h : i < 9) : kd (103 + 50 * i) = (0, 0) := (by decide : ∀ i, i < 9 → kd (103 + 50 * i) = (0, 0)) i h
/-- what the kit's va_astq says, and the heap's size -/
theorem va_astq2 {D : va_G} {cl : List vw_C} {ws : va_W} {tys : List (ClassId × FieldType)} {p : Program} {l : Launch} {e : Env} {R : Room} {s : State} {m : MethodId} {args : Array Value} {below : List Frame} {meth : Method} {c : Code} {A : Nat → Prop} {H0 H : Heap} {locs : List Loc} {cells slots : Nat} {Q : State → Prop} {cc : ByteArray} {pc a : Nat} {ls : Array Slot} {rest : List Value} (hexec : p.tables.exec = Jvm.exec) (hb : c.code = cc) (hK : va_K D cl tys s) (hP : va_P D cl ws H) (hD : va_D A ws) (hS : va_S A H0 H locs) (q0 t0 qk ci : Nat) {cA : ClassId} {r : vw_C} {n v : Nat} {vs : List Value} {f : Nat → Option Nat} (ha : ws[q0]? = some (a, .inl (cA, n, .inr (.inr (.inr (.inr f)))))) (ht : tys[t0]? = some (cA, .object r.1)) (hv : ws[qk]? = some (v, .inr (ci, vs))) (hc : cl[ci]? = some r) {i : Int32} (hin : vp_in i n) (hdg : decode cc pc = .ok (.aastore, 1))
    (kk : ∀ (H1 : Heap) (locs1 : List Loc), H1.size = H.size → va_P D cl (ws.set q0 (a, .inl (cA, n, .inr (.inr (.inr (.inr (va_up f i.toNatClampNeg (some v)))))))) H1 → va_D A (ws.set q0 (a, .inl (cA, n, .inr (.inr (.inr (.inr (va_up f i.toNatClampNeg (some v)))))))) → va_S A H0 H1 locs1 → W p l e R s m args below meth c H1 locs1 cells slots Q (F0 m (pc + 1) ls rest)) : W p l e R s m args below meth c H locs cells slots Q (F0 m pc ls (.ref v :: .int i :: .ref a :: rest)) := by
  have hlt : i.toNatClampNeg < n := Nat.not_le.mp fun q => hin (Or.inr q)
  have h0 : ¬ i < 0 := fun q => hin (Or.inl q)
  obtain ⟨r', hr', cellV, g1, g2, g3, -⟩ := hP qk _ hv
  have hcls := (hK.1 ci r hc).2
  obtain ⟨kA, comp, k1, k2, k3, -⟩ := (hK.2 t0 _ ht).2
  have hcomp : comp = D.1 ci := Option.some.inj (k3.symm.trans hcls.1)
  subst hcomp
  obtain ⟨kC, hkC, -⟩ := hcls.2
  refine W.aast hexec hb (hP q0 _ ha) (fun q h => by cases h) (fun h => by cases h) k1 k2 rfl hkC ⟨h0, by show _ < (arrV _ _ _).slots.size; rw [arrV_size]; exact hlt⟩ g1 (fun q h => by rw [g3] at h; cases h) (by rw [g2]; exact hkC) (by rw [g2]; exact va_assign hcls) rfl rfl hdg fun H1 e z oq => ?_
  refine kk H1 _ z (hP.set hD ha ?_ oq) (hD.set ha) (hS.put z oq (hD.2 q0 _ ha))
  show H1[a]? = some (vp_cell _ _)
  rw [e]
  rw [vp_cell_q, vp_cell_q, arrV_store]
  congr 2
  funext q
  by_cases hq : q = i.toNatClampNeg
  · subst hq
    simp [updV, va_up, va_rf]
  · simp [updV, va_up, hq]
theorem g_aastB {i : Nat} (hi : i < 9) (hj : 103 + 50 * i < gn σ) (hdg : decode (md_c μ) pc = .ok (.aastore, 1)) (kk : gG E μ d Q k n (setR σ 102 i) (pc + 1) lv st) : gG E μ d Q k n σ pc lv (.ref (gX E + (103 + 50 * i)) :: .int (nI i) :: .ref (gX E + 102) :: st) := by
  intro mcT msT p l e R s m args below meth c Z cx H locs cells slots ls hH hS hc hss hl
  have cx0 := cx
  obtain ⟨hx, hb, hml, hown, hts, hKK, hR, hB, -⟩ := cx0
  obtain ⟨hBB, h572, hsz, τ, ht1, ht2, hP, hD⟩ := id hH
  have he : (gws E τ σ)[102]? = some (gX E + 102, .inl (gar E 4, 9, .inr (.inr (.inr (.inr (fun q => if gR σ 102 q = true then some (gX E + (103 + 50 * q)) else none)))))) := by rw [gws_at (by omega), cellE_5 (N := 9) (by decide), adr_of (by decide)]
  have hb' : (gws E τ σ)[103 + 50 * i]? = some (gX E + (103 + 50 * i), .inr (0, fvs E τ σ 0 (103 + 50 * i))) := by rw [gws_at hj, cellE_0 (kd_ring hi), adr_of (by rw [kd_ring hi]; show (0 : Nat) ≠ 7; decide)]
  refine va_astq2 (D := E.1) (r := (RX1, TX1, 12)) hx hb hKK.1 hP hD hS 102 4 (103 + 50 * i) 0 he rfl hb' rfl (vp_in_nI hi (by decide)) hdg (fun H1 locs1 hz1 hP1 hD1 hS1 => ?_)
  rw [nI_clamp (by omega)] at hP1 hD1
  rw [show gX E + 102 = adr E τ 102 from (adr_of (by decide)).symm] at hP1 hD1
  have e1 : (fun q => if gR (setR σ 102 i) 102 q = true then some (gX E + (103 + 50 * q)) else none) = va_up (fun q => if gR σ 102 q = true then some (gX E + (103 + 50 * q)) else none) i (some (gX E + (103 + 50 * i))) := by
    funext q
    by_cases e : q = i
    · subst e
      rw [va_up_self, show gR (setR σ 102 q) 102 q = true from if_pos ⟨rfl, rfl⟩, if_pos rfl]
    · rw [va_up_ne _ _ e, show gR (setR σ 102 i) 102 q = gR σ 102 q from if_neg (fun h => e h.2)]
  refine kk _ _ _ _ _ _ _ _ _ _ _ _ _ cx H1 locs1 cells slots ls (gHH_set (σ' := setR σ 102 i) ⟨hBB, h572, hsz⟩ ht1 ht2 hB hS1 (fun _ => hz1) rfl (by omega) (by rw [cellE_5 (N := 9) (by decide), e1]) (fun a ha => cellE_setR ha) (fun a ha => rfl) hP1 hD1) hS1 hc hss hl
/-- the builder's bytes: made and stored -/
theorem g_newput {own : String} {idx j N : Nat} {x : Int32} (hx0 : x = nI N) (hN : N ≤ 256) (hf : gFq own idx 10 0 (.array .byte) false) (ho : md_o μ = own) (hj : j = 554 ∨ j = 557) (hn : gn σ = j + 1) (hM : gM σ j = fun _ => 0) (hk : 1 ≤ k) (hn2 : N ≤ n) (hdg : decode (md_c μ) pc = .ok (.newarray .byte, 2)) (hdg2 : decode (md_c μ) (pc + 2) = .ok (.putfield idx, 3)) (kk : gG E μ d Q (k - 1) (n - N) (gn σ + 1, uprR (gR σ) j 0, gM σ, gL σ, gF σ) (pc + 2 + 3) lv st) : gG E μ d Q k n σ pc lv (.int x :: .ref (gX E + j) :: st) := by
  subst hx0
  intro mcT msT p l e R s m args below meth c Z cx H locs cells slots ls hH hS hc hss hl
  have cx0 := cx
  obtain ⟨hx, hb, hml, hown, hts, hKK, hR9, hB, -⟩ := cx0
  obtain ⟨C, T, N9, ref, ty0, hc1, hk9, hnf, hw, hlk, hsm, hty, hnm, hfin, -, hd9⟩ := hf
  obtain ⟨hBB, h572, hsz, τ, ht1, ht2, hP, hD⟩ := id hH
  have hsz := hsz (by omega)
  refine va_newaK (atype := .byte) hx hb (hts _ ab_) rfl hdg rfl (nI_pos (by omega)) (nI_clamp (by omega)) (by show N * 1 ≤ 536870912; omega) (by rw [hR9.2.2.1]; omega) (by rw [hR9.2.2.2]; omega) rfl fun H1 cA e1 z1 o1 hAr hNm => ?_
  obtain rfl := gar_of (t := 6) (c2 := gar E 6) (ty := .byte) hKK.1 rfl rfl hNm
  have hS1 : va_S (gA E) s.heap H1 locs := ⟨by have := hS.1; omega, fun q g1 g2 => (o1 q (Nat.lt_of_lt_of_le g1 hS.1)).trans (hS.2.1 q g1 g2), hS.2.2⟩
  have hA : gA E H.size := by
    show gX E ≤ H.size
    omega
  have hP1 : va_P E.1 gcl (gws E τ σ ++ [(H.size, .inl (gar E 6, N, .inl (fun _ => 0)))]) H1 := (hP.kept (fun k q hq => o1 q.1 (hP k q hq).lt)).app (fun k x hx => by
    have hz9 : k < 1 := (List.getElem?_eq_some_iff.mp hx).1
    rw [show k = 0 by omega] at hx
    cases hx
    exact e1)
  have hD1 : va_D (gA E) (gws E τ σ ++ [(H.size, .inl (gar E 6, N, .inl (fun _ => 0)))]) := hD.push hP rfl hA
  have hadr : adr E τ j = gX E + j := adr_of (by rw [kdB hj]; show (0 : Nat) ≠ 7; decide)
  have he : (gws E τ σ ++ [(H.size, .inl (gar E 6, N, .inl (fun _ => 0)))])[j]? = some (gX E + j, .inr (10, fvs E τ σ 10 j)) := by
    rw [List.getElem?_append_left (by rw [gws_len]; omega), gws_at (by omega), cellE_0 (kdB hj), hadr]
  show W p l e R s m args below meth c H1 locs (cells + 1) (slots + N) Z (F0 m (pc + 2) ls (.ref H.size :: .ref (gX E + j) :: st))
  refine va_put2 (D := E.1) (ci := 10) (v := .ref H.size) hx hb hts hw ty0 hty hnm (by rw [← ho]; exact hown) hKK.1 hP1 hD1 hS1 j he hc1 0 hk9 (hts _ hlk) (gsame hts hsm) (Or.inl hfin) hd9 rfl rfl (by rw [fvs_len, hnf]; exact hk9) hdg2 (fun H2 locs2 hz2 hP2 hD2 hS2 => ?_)
  have hwd : (gws E τ σ ++ ([(H.size, .inl (gar E 6, N, .inl (fun _ => 0)))] : va_W)).set j (gX E + j, .inr (10, (fvs E τ σ 10 j).set 0 (.ref H.size))) = gws E (ts τ j (H.size, N, fun _ => 0, (tj τ j).2.2.2)) (gn σ + 1, uprR (gR σ) j 0, gM σ, gL σ, gF σ) := by
    apply List.ext_getElem?
    intro i
    rw [List.getElem?_set]
    by_cases hij : j = i
    · subst hij
      rw [if_pos rfl, if_pos (by rw [List.length_append, gws_len]; omega), gws_at (σ := (gn σ + 1, uprR (gR σ) j 0, gM σ, gL σ, gF σ)) (by show j < gn σ + 1; omega), cellE_0 (kdB hj), adrB hj]
      congr 4
      have h4 : ∀ (τ : gT) (σ : gS), fvs E τ σ 10 j = [fv E τ σ 10 j 0, fv E τ σ 10 j 1, fv E τ σ 10 j 2, fv E τ σ 10 j 3] := fun _ _ => rfl
      have k0 : fv E (ts τ j (H.size, N, fun _ => 0, (tj τ j).2.2.2)) (gn σ + 1, uprR (gR σ) j 0, gM σ, gL σ, gF σ) 10 j 0 = .ref H.size := by
        show (if uprR (gR σ) j 0 j 0 = true then Value.ref (if j = 554 then (ts τ j (H.size, N, fun _ => 0, (tj τ j).2.2.2)).1.1 else (ts τ j (H.size, N, fun _ => 0, (tj τ j).2.2.2)).2.1) else .null) = _
        rw [show uprR (gR σ) j 0 j 0 = true from if_pos ⟨rfl, rfl⟩, if_pos rfl]
        rcases hj with rfl | rfl <;> rfl
      have k2 : fv E (ts τ j (H.size, N, fun _ => 0, (tj τ j).2.2.2)) (gn σ + 1, uprR (gR σ) j 0, gM σ, gL σ, gF σ) 10 j 2 = fv E τ σ 10 j 2 := by
        rcases hj with rfl | rfl <;> rfl
      rw [h4, h4, k0, k2]
      rfl
    · rw [if_neg hij]
      by_cases hi : i < gn σ
      · rw [List.getElem?_append_left (by rw [gws_len]; exact hi), gws_at hi, gws_at (σ := (gn σ + 1, uprR (gR σ) j 0, gM σ, gL σ, gF σ)) (by show i < gn σ + 1; omega)]
        have hc9 : cellE E (ts τ j (H.size, N, fun _ => 0, (tj τ j).2.2.2)) (gn σ + 1, uprR (gR σ) j 0, gM σ, gL σ, gF σ) i = cellE E (ts τ j (H.size, N, fun _ => 0, (tj τ j).2.2.2)) σ i := cellE_setR (σ := σ) (kf := 0) (Ne.symm hij)
        rw [hc9]
        rcases hj with e | e
        · subst e
          rw [cellE_not10 (E := E) (τ := τ) (τ' := ts τ 554 (H.size, N, fun _ => 0, (tj τ 554).2.2.2)) (σ := σ) (i := i) (by omega) (by omega) (by omega) (by omega)]
          unfold adr
          rw [if_neg (by omega), if_neg (by omega), if_neg (by omega), if_neg (by omega)]
        · subst e
          by_cases h4 : i = 554
          · subst h4
            rfl
          · by_cases h5 : i = 555
            · subst h5
              rfl
            · rw [cellE_not10 (E := E) (τ := τ) (τ' := ts τ 557 (H.size, N, fun _ => 0, (tj τ 557).2.2.2)) (σ := σ) (i := i) h4 h5 (by omega) (by omega)]
              unfold adr
              rw [if_neg h5, if_neg (by omega), if_neg h5, if_neg (by omega)]
      · by_cases hi2 : i = gn σ
        · subst hi2
          rw [List.getElem?_append_right (by rw [gws_len]; exact Nat.le_refl _), gws_len, Nat.sub_self, gws_at (σ := (gn σ + 1, uprR (gR σ) j 0, gM σ, gL σ, gF σ)) (by show gn σ < gn σ + 1; omega), hn]
          rcases hj with rfl | rfl <;> rfl
        · rw [List.getElem?_eq_none (by rw [List.length_append, gws_len]; simp only [List.length_cons, List.length_nil]; omega), List.getElem?_eq_none (by rw [gws_len]; show gn σ + 1 ≤ i; omega)]
  rw [hwd] at hP2 hD2
  have hT : gTx (gn σ + 1, uprR (gR σ) j 0, gM σ, gL σ, gF σ) j (H.size, N, fun _ => 0, (tj τ j).2.2.2) := by
    refine ⟨sb_fit0, ?_, (gTx_j hj ht1 ht2).2.2.1, 0, ?_, Nat.zero_le _, hN, fun i hi => absurd hi (Nat.not_lt_zero i)⟩
    · show gM σ j 1 = 0
      rw [hM]
    · show gM σ j 3 = nI 0
      rw [hM]
      rfl
  obtain ⟨t1, t2⟩ := gTx_ts (σ' := (gn σ + 1, uprR (gR σ) j 0, gM σ, gL σ, gF σ)) hj ht1 ht2 hT (fun i _ _ => rfl)
  refine kk _ _ _ _ _ _ _ _ _ _ _ _ _ cx H2 locs2 (cells + 1) (slots + N) ls ⟨gB_S hB hS2, ?_, fun _ => ?_, _, t1, t2, hP2, hD2⟩ hS2 (by omega) (by omega) hl
  · show gn σ + 1 ≤ 572
    omega
  · rw [hz2, z1, hsz]
    show gX E + gn σ + 1 = gX E + (gn σ + 1)
    omega
/-- several cells more at once -/
theorem gHH_many {E : gE} {σ : gS} {H F H0 : Heap} {locs : List Loc} (c : Nat) (hH : gHH E σ H) (hc : gn σ + c ≤ 572) (hn : gn σ < 572) (hz : F.size = H.size + c) (hold : ∀ q, q < H.size → F[q]? = H[q]?) (hkd : ∀ i, i < c → (kd (gn σ + i)).1 ≠ 7) (hcell : ∀ i, i < c → ∀ (τ : gT) (H1 : Heap), H1[H.size + i]? = F[H.size + i]? → va_at E.1 gcl (H.size + i, cellE E τ σ (gn σ + i)) H1) (hB0 : gB E H0) (hS : va_S (gA E) H0 H locs) : ∀ i, i ≤ c → gHH E (gn σ + i, σ.2) (F.extract 0 (H.size + i)) ∧ va_S (gA E) H0 (F.extract 0 (H.size + i)) locs := by
  have hps : ∀ i, i ≤ c → (F.extract 0 (H.size + i)).size = H.size + i := fun i hi => by
    rw [Array.size_extract, hz]
    omega
  have hpg : ∀ i q, i ≤ c → q < H.size + i → (F.extract 0 (H.size + i))[q]? = F[q]? := fun i q hi hq => by
    rw [Array.getElem?_extract, if_pos (by omega), Nat.zero_add]
  intro i
  induction i with
  | zero =>
    intro _
    have e : F.extract 0 (H.size + 0) = H := Array.ext_getElem? fun q => by
      by_cases hq : q < H.size
      · rw [hpg 0 q (by omega) (by omega), hold q hq]
      · rw [Array.getElem?_eq_none (by rw [hps 0 (by omega)]; omega), Array.getElem?_eq_none (by omega)]
    rw [e]
    exact ⟨hH, hS⟩
  | succ i ih =>
    intro hi
    obtain ⟨⟨hBB, h572, hsz, τ, t1, t2, hP, hD⟩, hS1⟩ := ih (by omega)
    have h9 : H.size = gX E + gn σ := hH.2.2.1 hn
    refine gHH_push (σ := (gn σ + i, σ.2)) (σ' := (gn σ + (i + 1), σ.2)) (τ := τ) (τ' := τ) hBB (show gn σ + i < 572 by omega) (hsz (show gn σ + i < 572 by omega)) t1 t2 hP hD rfl (fun j hj => ⟨rfl, rfl⟩) ?_ ?_ (fun q hq => ?_) ?_ hB0 hS1
    · show adr E τ (gn σ + i) = _
      rw [adr_of (hkd i (by omega)), hps i (by omega), h9]
      omega
    · rw [hps (i + 1) hi, hps i (by omega)]
      omega
    · rw [hps i (by omega)] at hq
      rw [hpg (i + 1) q hi (by omega), hpg i q (by omega) hq]
    · rw [hps i (by omega)]
      exact hcell i (by omega) τ _ (hpg (i + 1) _ hi (by omega))
theorem mu_name : "[" ++ (FieldType.array .int).toString = "[[I" := by decide +kernel
theorem g_multi {own : String} {idx N M : Nat} {x y : Int32} (hx0 : x = nI N) (hy0 : y = nI M) (hN : N ≤ 12) (hM : M ≤ 12) (ho : md_o μ = own) (hcl : Cond.classLink own idx "[[I" ∈ wA) (har : Cond.arrayClass .int ∈ wA) (hkd : kd (gn σ) = (4, N)) (hkr : ∀ i, i < N → kd (gn σ + 1 + i) = (1, M)) (hz : ∀ i, i < N → gM σ (gn σ + 1 + i) = fun _ => 0) (hn : gn σ + 1 + N < 572) (hk : 1 + N ≤ k) (hn2 : N + N * M ≤ n) (hdg : decode (md_c μ) pc = .ok (.multianewarray idx 2, 4)) (kk : gG E μ d Q (k - (1 + N)) (n - (N + N * M)) (gn σ + 1 + N, σ.2) (pc + 4) lv (.ref (gX E + gn σ) :: st)) : gG E μ d Q k n σ pc lv (.int y :: .int x :: st) := by
  subst hx0
  subst hy0
  intro mcT msT p l e R s m args below meth c Z cx H locs cells slots ls hH hS hc hss hl
  have cx0 := cx
  obtain ⟨hx, hb, hml, hown, hts, hKK, hR9, hB, -⟩ := cx0
  have hsz : H.size = gX E + gn σ := hH.2.2.1 (by omega)
  have hov : va_AOA .int s := (gvb hKK).2.2.2.2.2.2.2.2.2.2.2.2.2.2.2.2.1
  have cN : (nI N).toNatClampNeg = N := nI_clamp (by omega)
  have cM : (nI M).toNatClampNeg = M := nI_clamp (by omega)
  intro T hT Xs
  have hcl2 : (Cond.classLink own idx ("[" ++ (FieldType.array .int).toString)).before args s = true := by
    rw [mu_name]
    exact hts _ hcl
  obtain ⟨vm₁, cA, comp, -, fA, fC, -, -, X', step⟩ := Xs.multianewarray2F hx (by rw [← ho]; exact hown) hcl2 (va_AOA.use hov) (hts _ har) (g := F0 m pc ls (.int (nI M) :: .int (nI N) :: st)) rfl (by rw [hb]; exact hdg) rfl (nI_pos (by omega)) (nI_pos (by omega)) (by rw [cN]; omega) (by rw [cM]; show M * 4 ≤ 536870912; omega) (by rw [cM]; omega) rfl rfl (by rw [cN, hR9.2.2.1]; omega) (by rw [cN, cM, hR9.2.2.2]; omega)
  rw [cN, cM] at X' step
  have eA : cA = gar E 3 := gar_of (t := 3) (ty := .array .int) hKK.1 rfl rfl fA
  have eC : comp = gar E 0 := gar_of (t := 0) (ty := .int) hKK.1 rfl rfl fC
  subst eA
  subst eC
  have hTh : (T.setVm vm₁).heap = H := hT
  obtain ⟨f1, f2, -, -⟩ := Jvm.Free.Multi.fill_facts (T.setVm vm₁) (gar E 3) (gar E 0) N M (defaultValue .int) N
  have hold := fun x (hx : x < H.size) => Jvm.Free.Multi.fill_old (T.setVm vm₁) (gar E 3) (gar E 0) N M (defaultValue .int) (a := x) (by rw [hTh]; exact hx) N
  have hrow := fun j (hj : j < N) => Jvm.Free.Multi.fill_inner (T.setVm vm₁) (gar E 3) (gar E 0) N M (defaultValue .int) N j hj
  generalize Jvm.Free.Multi.fill (T.setVm vm₁) (gar E 3) (gar E 0) N M (defaultValue .int) N = F at X' step f1 f2 hold hrow
  rw [hTh] at f1 f2 hold hrow
  rw [vr_outer] at f2
  have hmany := gHH_many (E := E) (σ := σ) (F := F.heap) (H0 := s.heap) (locs := locs) (1 + N) hH (by omega) (by omega) (by rw [f1]; omega) hold (fun i hi => by
    cases i with
    | zero =>
      rw [Nat.add_zero, hkd]
      show (4 : Nat) ≠ 7
      decide
    | succ i =>
      rw [show gn σ + (i + 1) = gn σ + 1 + i by omega, hkr i (by omega)]
      show (1 : Nat) ≠ 7
      decide) (fun i hi τ H1 h1 => by
    cases i with
    | zero =>
      rw [Nat.add_zero] at h1 ⊢
      rw [Nat.add_zero, cellE_4 hkd]
      show H1[H.size]? = some (vp_cell _ _)
      rw [h1, f2, vp_cell_q]
      congr 2
      funext j
      by_cases hj : j < N
      · rw [if_pos hj, if_pos hj, show H.size + 1 + j = gX E + (gn σ + 1 + j) by omega]
      · rw [if_neg hj, if_neg hj]
    | succ i =>
      rw [show gn σ + (i + 1) = gn σ + 1 + i by omega, cellE_1 (hkr i (by omega)), hz i (by omega)]
      show H1[H.size + (i + 1)]? = some (vp_cell _ _)
      have h2 := hrow i (by omega)
      rw [show H.size + 1 + i = H.size + (i + 1) by omega] at h2
      rw [h1, h2]
      congr 1
      show ({ cls := gar E 0, slots := Array.replicate M (defaultValue .int), vm := .none } : Cell) = arrV (gar E 0) M (fun _ => defaultValue .int)
      rw [arrV_rep]) hB hS (1 + N) (Nat.le_refl _)
  have eF : F.heap.extract 0 (H.size + (1 + N)) = F.heap := by
    rw [show H.size + (1 + N) = F.heap.size by rw [f1]; omega]
    exact Array.extract_size
  rw [eF] at hmany
  obtain ⟨k1, k2⟩ := hmany
  rw [show gn σ + (1 + N) = gn σ + 1 + N by omega] at k1
  obtain ⟨t, a1, b1⟩ := kk _ _ _ _ _ _ _ _ _ _ _ _ _ cx F.heap locs (cells + 1 + N) (slots + N + N * M) ls k1 k2 (by omega) (by omega) hl F rfl X'
  refine ⟨t, step t ?_, b1⟩
  have e : T.heap.size = gX E + gn σ := by rw [hT, hsz]
  rw [e]
  exact a1
end INIT2
