/-! the flat machine: stores -/
section GSTORE
variable {E : gE} {μ : gMd} {d : Nat} {Q : gO → gS → Prop} {k n : Nat} {σ : gS} {pc : Nat} {lv : List (Nat × Value)} {st : List Value}
theorem kd_554 : kd 554 = (0, 10) := by decide
theorem kd_555 : kd 555 = (7, 0) := by decide
theorem kd_557 : kd 557 = (0, 10) := by decide
theorem kd_558 : kd 558 = (7, 1) := by decide
/-- no text lies at j -/
theorem ntx {j t N : Nat} (h : kd j = (t, N)) (ht : t ≠ 7) (h0 : t = 0 → N ≠ 10) {i : Nat} (hi : i = 554 ∨ i = 555 ∨ i = 557 ∨ i = 558) : i ≠ j := by
  rintro rfl
  rcases hi with rfl | rfl | rfl | rfl
  · rw [kd_554] at h
    cases h
    exact h0 rfl rfl
  · rw [kd_555] at h
    cases h
    exact ht rfl
  · rw [kd_557] at h
    cases h
    exact h0 rfl rfl
  · rw [kd_558] at h
    cases h
    exact ht rfl
theorem fv_upr {E : gE} {τ : gT} {σ : gS} {ci i j k : Nat} {f : Nat → Int32} (h : i ≠ j) : fv E τ (setM σ j f) ci i k = fv E τ σ ci i k := by
  unfold fv
  rw [show gM (setM σ j f) i = gM σ i from upr_n h]
theorem cellE_upr {E : gE} {τ : gT} {σ : gS} {i j : Nat} {f : Nat → Int32} (h : i ≠ j) : cellE E τ (setM σ j f) i = cellE E τ σ i := by
  unfold cellE fvs
  rw [show gM (setM σ j f) i = gM σ i from upr_n h, show fv E τ (setM σ j f) (kd i).2 i = fv E τ σ (kd i).2 i from funext fun k => fv_upr h]
theorem g_iast {i x : Int32} {j N : Nat} (hkd : kd j = (1, N)) (hn : gn σ = 572) (hj : j < 572) (hi : vp_in i N) (hdg : decode (md_c μ) pc = .ok (.iastore, 1)) (kk : gG E μ d Q k n (setM σ j (upd (gM σ j) i.toNatClampNeg x)) (pc + 1) lv st) : gG E μ d Q k n σ pc lv (.int x :: .int i :: .ref (gX E + j) :: st) := by
  intro _ _ _ _ _ _ _ _ _ _ _ _ _ cx H locs cells slots ls hH hS hc hs hl
  have cx0 := cx
  obtain ⟨hx, hb, hml, hown, hts, hKK, hR, hB, -⟩ := cx0
  obtain ⟨hBB, h572, hsz, τ, ht1, ht2, hP, hD⟩ := id hH
  have he : (gws E τ σ)[j]? = some (gX E + j, .inl (gar E 0, N, .inl (gM σ j))) := by rw [gws_at (by rw [hn]; exact hj), cellE_1 hkd, adr_of (by rw [hkd]; show (1 : Nat) ≠ 7; decide)]
  refine va_iast (D := E.1) hx hb hKK.1 hP hD hS j 0 he rfl hi hdg (fun H1 locs1 hP1 hD1 hS1 => ?_)
  rw [show gX E + j = adr E τ j from (adr_of (by rw [hkd]; show (1 : Nat) ≠ 7; decide)).symm] at hP1 hD1
  exact kk _ _ _ _ _ _ _ _ _ _ _ _ _ cx H1 locs1 cells slots ls (gHH_set ⟨hBB, h572, hsz⟩ ht1 ht2 hB hS1 (fun h => absurd h (by rw [hn]; decide)) rfl (by rw [hn]; exact hj) (by rw [cellE_1 hkd]; show _ = _; rw [show gM (setM σ j (upd (gM σ j) i.toNatClampNeg x)) j = upd (gM σ j) i.toNatClampNeg x from upr_s]) (fun a ha => cellE_upr ha) (fun a ha => upr_n (ntx hkd (by decide) (by intro h; cases h) ha)) hP1 hD1) hS1 hc hs hl
theorem g_cast {i x : Int32} {j N : Nat} (hkd : kd j = (2, N)) (hn : gn σ = 572) (hj : j < 572) (hi : vp_in i N) (hx0 : vp_nar .char x = x) (hdg : decode (md_c μ) pc = .ok (.castore, 1)) (kk : gG E μ d Q k n (setM σ j (upd (gM σ j) i.toNatClampNeg x)) (pc + 1) lv st) : gG E μ d Q k n σ pc lv (.int x :: .int i :: .ref (gX E + j) :: st) := by
  intro _ _ _ _ _ _ _ _ _ _ _ _ _ cx H locs cells slots ls hH hS hc hs hl
  have cx0 := cx
  obtain ⟨hx, hb, hml, hown, hts, hKK, hR, hB, -⟩ := cx0
  obtain ⟨hBB, h572, hsz, τ, ht1, ht2, hP, hD⟩ := id hH
  have he : (gws E τ σ)[j]? = some (gX E + j, .inl (gar E 1, N, .inl (gM σ j))) := by rw [gws_at (by rw [hn]; exact hj), cellE_2 hkd, adr_of (by rw [hkd]; show (2 : Nat) ≠ 7; decide)]
  refine va_cast (D := E.1) hx hb hKK.1 hP hD hS j 1 he rfl hi hdg (fun H1 locs1 hP1 hD1 hS1 => ?_)
  rw [hx0, show gX E + j = adr E τ j from (adr_of (by rw [hkd]; show (2 : Nat) ≠ 7; decide)).symm] at hP1 hD1
  exact kk _ _ _ _ _ _ _ _ _ _ _ _ _ cx H1 locs1 cells slots ls (gHH_set ⟨hBB, h572, hsz⟩ ht1 ht2 hB hS1 (fun h => absurd h (by rw [hn]; decide)) rfl (by rw [hn]; exact hj) (by rw [cellE_2 hkd]; show _ = _; rw [show gM (setM σ j (upd (gM σ j) i.toNatClampNeg x)) j = upd (gM σ j) i.toNatClampNeg x from upr_s]) (fun a ha => cellE_upr ha) (fun a ha => upr_n (ntx hkd (by decide) (by intro h; cases h) ha)) hP1 hD1) hS1 hc hs hl
theorem cellE_uprL {E : gE} {τ : gT} {σ : gS} {i j : Nat} {f : Nat → Int64} (h : i ≠ j) : cellE E τ (setL σ j f) i = cellE E τ σ i := by
  unfold cellE fvs
  rw [show gL (setL σ j f) i = gL σ i from uprL_n h]
  rfl
theorem g_last {i : Int32} {x : Int64} {j N : Nat} (hkd : kd j = (3, N)) (hn : gn σ = 572) (hj : j < 572) (hi : vp_in i N) (hdg : decode (md_c μ) pc = .ok (.lastore, 1)) (kk : gG E μ d Q k n (setL σ j (vp_updL (gL σ j) i.toNatClampNeg x)) (pc + 1) lv st) : gG E μ d Q k n σ pc lv (.long x :: .int i :: .ref (gX E + j) :: st) := by
  intro _ _ _ _ _ _ _ _ _ _ _ _ _ cx H locs cells slots ls hH hS hc hs hl
  have cx0 := cx
  obtain ⟨hx, hb, hml, hown, hts, hKK, hR, hB, -⟩ := cx0
  obtain ⟨hBB, h572, hsz, τ, ht1, ht2, hP, hD⟩ := id hH
  have he : (gws E τ σ)[j]? = some (gX E + j, .inl (gar E 2, N, .inr (.inl (gL σ j)))) := by rw [gws_at (by rw [hn]; exact hj), cellE_3 hkd, adr_of (by rw [hkd]; show (3 : Nat) ≠ 7; decide)]
  refine va_last (D := E.1) hx hb hKK.1 hP hD hS j 2 he rfl hi hdg (fun H1 locs1 hP1 hD1 hS1 => ?_)
  rw [show gX E + j = adr E τ j from (adr_of (by rw [hkd]; show (3 : Nat) ≠ 7; decide)).symm] at hP1 hD1
  exact kk _ _ _ _ _ _ _ _ _ _ _ _ _ cx H1 locs1 cells slots ls (gHH_set ⟨hBB, h572, hsz⟩ ht1 ht2 hB hS1 (fun h => absurd h (by rw [hn]; decide)) rfl (by rw [hn]; exact hj) (by rw [cellE_3 hkd]; show _ = _; rw [show gL (setL σ j (vp_updL (gL σ j) i.toNatClampNeg x)) j = vp_updL (gL σ j) i.toNatClampNeg x from uprL_s]) (fun a ha => cellE_uprL ha) (fun a ha => rfl) hP1 hD1) hS1 hc hs hl
theorem kd6 {i : Nat} (h : i ≠ 571) : (kd i).1 ≠ 6 := by
  have hb : ∀ o, (bkL.getD o (1, 0)).1 ≠ 6 := fun o => by
    by_cases ho : o < 50
    · exact (by decide : ∀ o, o < 50 → (bkL.getD o (1, 0)).1 ≠ 6) o ho
    · rw [List.getD_eq_getElem?_getD, List.getElem?_eq_none (by show 50 ≤ o; omega)]
      decide
  have ht : ∀ o, o ≠ 18 → (tlL.getD o (1, 0)).1 ≠ 6 := fun o h18 => by
    by_cases ho : o < 19
    · exact (by decide : ∀ o, o < 19 → o ≠ 18 → (tlL.getD o (1, 0)).1 ≠ 6) o ho h18
    · rw [List.getD_eq_getElem?_getD, List.getElem?_eq_none (by show 19 ≤ o; omega)]
      decide
  unfold kd
  by_cases h1 : i = 0
  · rw [if_pos h1]; decide
  rw [if_neg h1]
  by_cases h2 : i < 101
  · rw [if_pos h2]; exact hb _
  rw [if_neg h2]
  by_cases h3 : i = 101
  · rw [if_pos h3]; decide
  rw [if_neg h3]
  by_cases h4 : i = 102
  · rw [if_pos h4]; decide
  rw [if_neg h4]
  by_cases h5 : i < 553
  · rw [if_pos h5]; exact hb _
  rw [if_neg h5]
  exact ht _ (by omega)
theorem g_dast {i : Int32} {x : UInt64} {N : Nat} (hkd : kd 571 = (6, N)) (hn : gn σ = 572) (hi : vp_in i N) (hdg : decode (md_c μ) pc = .ok (.dastore, 1)) (kk : gG E μ d Q k n (setF σ (vf_upd (gF σ) i.toNatClampNeg x)) (pc + 1) lv st) : gG E μ d Q k n σ pc lv (.double x :: .int i :: .ref (gX E + 571) :: st) := by
  intro _ _ _ _ _ _ _ _ _ _ _ _ _ cx H locs cells slots ls hH hS hc hs hl
  have cx0 := cx
  obtain ⟨hx, hb, hml, hown, hts, hKK, hR, hB, -⟩ := cx0
  obtain ⟨hBB, h572, hsz, τ, ht1, ht2, hP, hD⟩ := id hH
  have he : (gws E τ σ)[571]? = some (gX E + 571, .inl (gar E 5, N, .inr (.inr (.inr (.inl (gF σ)))))) := by rw [gws_at (by rw [hn]; decide), cellE_6 hkd, adr_of (by rw [hkd]; show (6 : Nat) ≠ 7; decide)]
  refine va_dast (D := E.1) hx hb hKK.1 hP hD hS 571 5 he rfl hi hdg (fun H1 locs1 hP1 hD1 hS1 => ?_)
  rw [show gX E + 571 = adr E τ 571 from (adr_of (by rw [hkd]; show (6 : Nat) ≠ 7; decide)).symm] at hP1 hD1
  have ho : ∀ i', i' ≠ 571 → cellE E τ (setF σ (vf_upd (gF σ) i.toNatClampNeg x)) i' = cellE E τ σ i' := fun i' hi' => by
    by_cases h6 : (kd i').1 = 6
    · exact absurd h6 (kd6 hi')
    · unfold cellE fvs
      rw [if_neg h6, if_neg h6]
      rfl
  exact kk _ _ _ _ _ _ _ _ _ _ _ _ _ cx H1 locs1 cells slots ls (gHH_set ⟨hBB, h572, hsz⟩ ht1 ht2 hB hS1 (fun h => absurd h (by rw [hn]; decide)) rfl (by rw [hn]; decide) (by rw [cellE_6 hkd]) ho (fun a ha => rfl) hP1 hD1) hS1 hc hs hl
/-- a field's store with the size of the heap behind it: what the kit's va_put says, and that -/
theorem va_put2 {D : va_G} {cl : List vw_C} {ws : va_W} {tys : List (ClassId × FieldType)} {p : Program} {l : Launch} {e : Env} {R : Room} {s : State} {m : MethodId} {args : Array Value} {below : List Frame} {meth : Method} {c : Code} {A : Nat → Prop} {H0 H : Heap} {locs : List Loc} {cells slots : Nat} {Q : State → Prop} {cc : ByteArray} {pc a : Nat} {ls : Array Slot} {rest : List Value} (hexec : p.tables.exec = Jvm.exec) (hb : c.code = cc) {own ref C : String} {T : u_T} {N ci index : Nat} {Ts : List Cond} (hts : ∀ w ∈ Ts, w.before args s = true) (hin : ∀ w ∈ u_ws C T N, w ∈ Ts) (ty0 : Nat → FieldType) (hty : ∀ k, k < N → parseFieldDescriptor (T k).2.2.1 = some (ty0 k)) (hnm : ∀ a, a < N → ∀ b, b < N → a ≠ b → (T a).2.1 ≠ (T b).2.1) (hown : s.vm.findClass own = some m.cls) (hK : va_K D cl tys s) (hP : va_P D cl ws H) (hD : va_D A ws) (hS0 : va_S A H0 H locs) (q0 : Nat) {fs : List Value} (he : ws[q0]? = some (a, .inr (ci, fs))) (hc : cl[ci]? = some (C, T, N)) (k : Nat) (hk : k < N) (hlink : (Cond.fieldLink own index ref (T k).2.1 (T k).2.2.1).before args s = true) (hsame : ∀ x, s.fieldFound? (T k).1 (T k).2.1 (T k).2.2.1 = some x → s.fieldFound? ref (T k).2.1 (T k).2.2.1 = some x) (hfin : (T k).2.2.2 = false ∨ ((T k).2.2.2 = true ∧ meth.name = "<init>" ∧ (T k).1 = own)) {ty : FieldType} {v : Value} (hd : parseFieldDescriptor (T k).2.2.1 = some ty) (hn : narrow ty v = v) (hfit : fits ty v = true) (hl : k < fs.length)
    (hdg : decode cc pc = .ok (.putfield index, 3)) (kk : ∀ (H1 : Heap) (locs1 : List Loc), H1.size = H.size → va_P D cl (ws.set q0 (a, .inr (ci, fs.set k v))) H1 → va_D A (ws.set q0 (a, .inr (ci, fs.set k v))) → va_S A H0 H1 locs1 → W p l e R s m args below meth c H1 locs1 cells slots Q (F0 m (pc + 3) ls rest)) : W p l e R s m args below meth c H locs cells slots Q (F0 m pc ls (v :: .ref a :: rest)) := by
  have hap := va_apart (own := own) hts hin ty0 hty hnm hK hc
  obtain ⟨r, h1, cell, q1, q2, q3, q4⟩ := hP q0 _ he
  have hr : r = (C, T, N) := Option.some.inj (h1.symm.trans hc)
  subst hr
  obtain ⟨hS, hfc, kC, hkC, hkind⟩ := hK.1 ci _ hc
  obtain ⟨cf, kf, fi, f, hi, hsl⟩ := hS k hk
  have hlay := hts _ (hin _ (u_in_lay hk))
  unfold u_lay at hlay
  have hst := (u_facts hfc hkC (u_lays hts hin hk) hi).1
  rcases hfin with hfin | ⟨hfin, hin2, hdecl⟩
  · rw [if_neg (by rw [hfin]; decide)] at hlay
    have h6 := u_store hfc hkC hkind hlay hi hd hn hfit
    refine W.putK hexec hb (f := f) ⟨hown, hlink, ⟨_, _, _, hsame _ hi⟩, hst⟩ (by rw [q2]; exact h6) q1 q3 (by rw [hsl]; exact k2_hasslot (q4 k hk)) rfl rfl hdg fun H' e1 e2 e3 => ?_
    rw [hsl] at e1 ⊢
    exact kk H' _ e2 (hP.set hD he ⟨_, hc, t_OB.to (V := updV (vp_V fs) k v) ⟨_, e1, q2, q3, t_set q4 hap hk v⟩ (fun j _ => vp_updV_set hl v j)⟩ e3) (hD.set he) (hS0.put e2 e3 (hD.2 q0 _ he))
  · rw [if_pos hfin] at hlay
    have hcf : m.cls = cf := by
      obtain ⟨_, _, c', _, _, _, -, -, hf', -, -, -, hown2, -⟩ := Cond.laysFinal_spec hlay
      have e1 : c' = cf := by have := hi.symm.trans hf'; simp at this; exact this.1.symm
      rw [hdecl] at hown2
      rw [← e1]; exact Option.some.inj (hown.symm.trans hown2)
    have h6 := u_fits hfc hkC hkind (Or.inr hlay) hi hd hn hfit
    refine W.putFinK hexec hb hown hlink (hsame _ hi) hst hcf hin2 (by rw [q2]; exact h6) q1 q3 (by rw [hsl]; exact k2_hasslot (q4 k hk)) rfl rfl hdg fun H' e1 e2 e3 => ?_
    rw [hsl] at e1 ⊢
    exact kk H' _ e2 (hP.set hD he ⟨_, hc, t_OB.to (V := updV (vp_V fs) k v) ⟨_, e1, q2, q3, t_set q4 hap hk v⟩ (fun j _ => vp_updV_set hl v j)⟩ e3) (hD.set he) (hS0.put e2 e3 (hD.2 q0 _ he))
theorem fvs_upr {E : gE} {τ : gT} {σ : gS} {ci j kf : Nat} {x : Int32} (h0 : fcode ci kf = 0) (hz : ∀ k, fcode ci k = 1000 → False) : fvs E τ (setM σ j (upd (gM σ j) kf x)) ci j = (fvs E τ σ ci j).set kf (.int x) := by
  apply List.ext_getElem?
  intro i
  rw [List.getElem?_set, fvs_len]
  by_cases hi : i < nf ci
  · rw [fvs_at hi]
    by_cases e : kf = i
    · subst e
      rw [if_pos rfl, if_pos hi]
      unfold fv
      rw [if_pos h0, show gM (setM σ j (upd (gM σ j) kf x)) j = upd (gM σ j) kf x from upr_s, pk_us]
    · rw [if_neg e, fvs_at hi]
      unfold fv
      rw [show gM (setM σ j (upd (gM σ j) kf x)) j = upd (gM σ j) kf x from upr_s]
      by_cases h9 : fcode ci i = 0
      · rw [if_pos h9, if_pos h9, pk_un (Ne.symm e)]
      · rw [if_neg h9, if_neg h9, if_neg (fun h => hz i h), if_neg (fun h => hz i h)]
  · rw [List.getElem?_eq_none (by rw [fvs_len]; omega)]
    by_cases e : kf = i
    · rw [if_pos e, if_neg (by rw [e]; exact hi)]
    · rw [if_neg e, List.getElem?_eq_none (by rw [fvs_len]; omega)]
/-- a number's store into a field -/
theorem g_put {own : String} {idx ci kf j : Nat} {ty : FieldType} {x : Int32} (hf : gFq own idx ci kf ty false) (ho : md_o μ = own) (hkd : kd j = (0, ci)) (h10 : ci ≠ 10) (h0 : fcode ci kf = 0) (hz : ∀ k, fcode ci k = 1000 → False) (hj : j < gn σ) (hn : narrow ty (.int x) = .int x) (hfit : fits ty (.int x) = true) (hdg : decode (md_c μ) pc = .ok (.putfield idx, 3)) (kk : gG E μ d Q k n (setM σ j (upd (gM σ j) kf x)) (pc + 3) lv st) : gG E μ d Q k n σ pc lv (.int x :: .ref (gX E + j) :: st) := by
  intro _ _ _ _ _ _ _ _ _ _ _ _ _ cx H locs cells slots ls hH hS hc hs hl
  have cx0 := cx
  obtain ⟨hx, hb, hml, hown, hts, hKK, hR, hB, -⟩ := cx0
  obtain ⟨C, T, N, ref, ty0, hc1, hk, hnf, hw, hlk, hsm, hty, hnm, hfin, -, hd⟩ := hf
  obtain ⟨hBB, h572, hsz, τ, ht1, ht2, hP, hD⟩ := id hH
  have he : (gws E τ σ)[j]? = some (gX E + j, .inr (ci, fvs E τ σ ci j)) := by rw [gws_at hj, cellE_0 hkd, adr_of (by rw [hkd]; show (0 : Nat) ≠ 7; decide)]
  refine va_put2 (D := E.1) (ci := ci) (v := .int x) hx hb hts hw ty0 hty hnm (by rw [← ho]; exact hown) hKK.1 hP hD hS j he hc1 kf hk (hts _ hlk) (gsame hts hsm) (Or.inl hfin) hd hn hfit (by rw [fvs_len, hnf]; exact hk) hdg (fun H1 locs1 hz1 hP1 hD1 hS1 => ?_)
  rw [show gX E + j = adr E τ j from (adr_of (by rw [hkd]; show (0 : Nat) ≠ 7; decide)).symm] at hP1 hD1
  exact kk _ _ _ _ _ _ _ _ _ _ _ _ _ cx H1 locs1 cells slots ls (gHH_set ⟨hBB, h572, hsz⟩ ht1 ht2 hB hS1 (fun _ => hz1) rfl hj (by rw [cellE_0 hkd, fvs_upr h0 hz]) (fun a ha => cellE_upr ha) (fun a ha => upr_n (ntx hkd (by decide) (fun _ => h10) ha)) hP1 hD1) hS1 hc hs hl
theorem cellE_setR {E : gE} {τ : gT} {σ : gS} {i j kf : Nat} (h : i ≠ j) : cellE E τ (setR σ j kf) i = cellE E τ σ i := by
  have e : ∀ b, uprR (gR σ) j kf i b = gR σ i b := fun b => if_neg (fun q => h q.1)
  unfold cellE fvs
  have e2 : fv E τ (setR σ j kf) (kd i).2 i = fv E τ σ (kd i).2 i := by
    funext b
    unfold fv
    rw [show gR (setR σ j kf) i b = gR σ i b from e b]
  rw [e2, show gR (setR σ j kf) i = gR σ i from funext e]
theorem fvs_setR {E : gE} {τ : gT} {σ : gS} {ci j kf cf : Nat} (h0 : fcode ci kf = cf + 1) (h1 : cf < 999) : fvs E τ (setR σ j kf) ci j = (fvs E τ σ ci j).set kf (.ref (gX E + (j + cf))) := by
  apply List.ext_getElem?
  intro i
  rw [List.getElem?_set, fvs_len]
  by_cases hi : i < nf ci
  · rw [fvs_at hi]
    by_cases e : kf = i
    · subst e
      rw [if_pos rfl, if_pos hi]
      unfold fv
      rw [if_neg (by omega), if_neg (by omega), if_neg (by omega), if_neg (by omega), show gR (setR σ j kf) j kf = true from if_pos ⟨rfl, rfl⟩, if_pos rfl, show fcode ci kf - 1 = cf by omega]
    · rw [if_neg e, fvs_at hi]
      unfold fv
      rw [show gR (setR σ j kf) j i = gR σ j i from if_neg (fun q => e q.2.symm)]
  · rw [List.getElem?_eq_none (by rw [fvs_len]; omega)]
    by_cases e : kf = i
    · rw [if_pos e, if_neg (by rw [e]; exact hi)]
    · rw [if_neg e, List.getElem?_eq_none (by rw [fvs_len]; omega)]
/-- a constructor sets a final reference: it is the one that the layout has there -/
theorem g_putR {own : String} {idx ci kf j cf : Nat} {ty : FieldType} {t : Nat} (hf : gFq own idx ci kf ty true) (ho : md_o μ = own) (hkd : kd j = (0, ci)) (h0 : fcode ci kf = cf + 1) (h1 : cf < 999) (hin0 : (md_y μ).name = "<init>") (hj : j < gn σ) (ht : t = gX E + (j + cf)) (hn : narrow ty (.ref t) = .ref t) (hfit : fits ty (.ref t) = true) (hdg : decode (md_c μ) pc = .ok (.putfield idx, 3)) (kk : gG E μ d Q k n (setR σ j kf) (pc + 3) lv st) : gG E μ d Q k n σ pc lv (.ref t :: .ref (gX E + j) :: st) := by
  intro _ _ _ _ _ _ _ _ _ _ _ _ _ cx H locs cells slots ls hH hS hc hs hl
  have cx0 := cx
  obtain ⟨hx, hb, hml, hown, hts, hKK, hR, hB, -, -, -, -, -, hini⟩ := cx0
  obtain ⟨C, T, N, ref, ty0, hc1, hk, hnf, hw, hlk, hsm, hty, hnm, hfin, hdecl, hd⟩ := hf
  obtain ⟨hBB, h572, hsz, τ, ht1, ht2, hP, hD⟩ := id hH
  have he : (gws E τ σ)[j]? = some (gX E + j, .inr (ci, fvs E τ σ ci j)) := by rw [gws_at hj, cellE_0 hkd, adr_of (by rw [hkd]; show (0 : Nat) ≠ 7; decide)]
  refine va_put2 (D := E.1) (ci := ci) (v := .ref t) hx hb hts hw ty0 hty hnm (by rw [← ho]; exact hown) hKK.1 hP hD hS j he hc1 kf hk (hts _ hlk) (gsame hts hsm) (Or.inr ⟨hfin, hini hin0, hdecl rfl⟩) hd hn hfit (by rw [fvs_len, hnf]; exact hk) hdg (fun H1 locs1 hz1 hP1 hD1 hS1 => ?_)
  rw [show gX E + j = adr E τ j from (adr_of (by rw [hkd]; show (0 : Nat) ≠ 7; decide)).symm] at hP1 hD1
  exact kk _ _ _ _ _ _ _ _ _ _ _ _ _ cx H1 locs1 cells slots ls (gHH_set ⟨hBB, h572, hsz⟩ ht1 ht2 hB hS1 (fun _ => hz1) rfl hj (by rw [cellE_0 hkd, fvs_setR h0 h1, ht]) (fun a ha => cellE_setR ha) (fun a ha => rfl) hP1 hD1) hS1 hc hs hl
end GSTORE
