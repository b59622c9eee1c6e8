/-! the flat machine: rows that read and write the world -/
section GHEAP
def upr (M : Nat → Nat → Int32) (j : Nat) (f : Nat → Int32) : Nat → Nat → Int32 := fun a => if a = j then f else M a
theorem upr_s {M : Nat → Nat → Int32} {j : Nat} {f : Nat → Int32} : upr M j f j = f := if_pos rfl
theorem upr_n {M : Nat → Nat → Int32} {j a : Nat} {f : Nat → Int32} (h : a ≠ j) : upr M j f a = M a := if_neg h
def uprL (M : Nat → Nat → Int64) (j : Nat) (f : Nat → Int64) : Nat → Nat → Int64 := fun a => if a = j then f else M a
theorem uprL_s {M : Nat → Nat → Int64} {j : Nat} {f : Nat → Int64} : uprL M j f j = f := if_pos rfl
theorem uprL_n {M : Nat → Nat → Int64} {j a : Nat} {f : Nat → Int64} (h : a ≠ j) : uprL M j f a = M a := if_neg h
def uprR (M : Nat → Nat → Bool) (j k : Nat) : Nat → Nat → Bool := fun a b => if a = j ∧ b = k then true else M a b
abbrev setM (σ : gS) (j : Nat) (f : Nat → Int32) : gS := (gn σ, gR σ, upr (gM σ) j f, gL σ, gF σ)
abbrev setL (σ : gS) (j : Nat) (f : Nat → Int64) : gS := (gn σ, gR σ, gM σ, uprL (gL σ) j f, gF σ)
abbrev setF (σ : gS) (f : Nat → UInt64) : gS := (gn σ, gR σ, gM σ, gL σ, f)
abbrev setR (σ : gS) (j k : Nat) : gS := (gn σ, uprR (gR σ) j k, gM σ, gL σ, gF σ)
theorem cellE_0 {E : gE} {τ : gT} {σ : gS} {j ci : Nat} (h : kd j = (0, ci)) : cellE E τ σ j = .inr (ci, fvs E τ σ ci j) := by
  unfold cellE
  rw [h]
  rfl
theorem cellE_1 {E : gE} {τ : gT} {σ : gS} {j N : Nat} (h : kd j = (1, N)) : cellE E τ σ j = .inl (gar E 0, N, .inl (gM σ j)) := by
  unfold cellE
  rw [h]
  rfl
theorem cellE_2 {E : gE} {τ : gT} {σ : gS} {j N : Nat} (h : kd j = (2, N)) : cellE E τ σ j = .inl (gar E 1, N, .inl (gM σ j)) := by
  unfold cellE
  rw [h]
  rfl
theorem cellE_3 {E : gE} {τ : gT} {σ : gS} {j N : Nat} (h : kd j = (3, N)) : cellE E τ σ j = .inl (gar E 2, N, .inr (.inl (gL σ j))) := by
  unfold cellE
  rw [h]
  rfl
theorem cellE_4 {E : gE} {τ : gT} {σ : gS} {j N : Nat} (h : kd j = (4, N)) : cellE E τ σ j = .inl (gar E 3, N, .inr (.inr (.inr (.inr (fun i => if i < N then some (gX E + (j + 1 + i)) else none))))) := by
  unfold cellE
  rw [h]
  rfl
theorem cellE_5 {E : gE} {τ : gT} {σ : gS} {j N : Nat} (h : kd j = (5, N)) : cellE E τ σ j = .inl (gar E 4, N, .inr (.inr (.inr (.inr (fun i => if gR σ j i = true then some (gX E + (103 + 50 * i)) else none))))) := by
  unfold cellE
  rw [h]
  rfl
theorem cellE_6 {E : gE} {τ : gT} {σ : gS} {j N : Nat} (h : kd j = (6, N)) : cellE E τ σ j = .inl (gar E 5, N, .inr (.inr (.inr (.inl (gF σ))))) := by
  unfold cellE
  rw [h]
  rfl
theorem fvs_at {E : gE} {τ : gT} {σ : gS} {ci j k : Nat} (h : k < nf ci) : (fvs E τ σ ci j)[k]? = some (fv E τ σ ci j k) := by
  unfold fvs
  rw [List.getElem?_map, List.getElem?_range h]
  rfl
theorem fvs_len (E : gE) (τ : gT) (σ : gS) (ci j : Nat) : (fvs E τ σ ci j).length = nf ci := by
  unfold fvs
  rw [List.length_map, List.length_range]
theorem gws_set {E : gE} {τ : gT} {σ σ' : gS} {j : Nat} {x : va_E} (hn : gn σ' = gn σ) (hj : j < gn σ) (hx : cellE E τ σ' j = x) (ho : ∀ i, i ≠ j → cellE E τ σ' i = cellE E τ σ i) : (gws E τ σ).set j (adr E τ j, x) = gws E τ σ' := by
  apply List.ext_getElem?
  intro i
  rw [List.getElem?_set, gws_len]
  by_cases hi : i < gn σ
  · rw [gws_at (σ := σ') (by rw [hn]; exact hi)]
    by_cases e : j = i
    · subst e
      rw [if_pos rfl, if_pos hj, hx]
    · rw [if_neg e, gws_at hi, ho i (Ne.symm e)]
  · rw [if_neg (fun e => hi (by rw [← e]; exact hj))]
    rw [List.getElem?_eq_none (by rw [gws_len]; omega), List.getElem?_eq_none (by rw [gws_len, hn]; omega)]
/-- a text is as before, where its cells are -/
theorem gTx_kept {σ σ' : gS} {j : Nat} {w : gT1} (h : gTx σ j w) (h1 : gM σ' j = gM σ j) (h2 : gM σ' (j + 1) = gM σ (j + 1)) : gTx σ' j w := by
  unfold gTx at h ⊢
  rw [h1, h2]
  exact h
theorem gB_S {E : gE} {H0 H : Heap} {locs : List Loc} (h : gB E H0) (hS : va_S (gA E) H0 H locs) : gB E H := by
  refine ⟨Nat.le_trans h.1 hS.1, fun q hq => ?_⟩
  rw [hS.2.1 q (Nat.lt_of_lt_of_le hq h.1) (Nat.not_le.mpr hq)]
  exact h.2 q hq
/-- one cell of the world is written -/
theorem gHH_set {E : gE} {σ σ' : gS} {H H1 H0 : Heap} {locs : List Loc} {τ : gT} {j : Nat} {x : va_E} (hH : gB E H ∧ gn σ ≤ 572 ∧ (gn σ < 572 → H.size = gX E + gn σ)) (ht1 : gTx σ 554 τ.1) (ht2 : gTx σ 557 τ.2) (hB : gB E H0) (hS : va_S (gA E) H0 H1 locs) (hz : gn σ < 572 → H1.size = H.size) (hn : gn σ' = gn σ) (hj : j < gn σ) (hx : cellE E τ σ' j = x) (ho : ∀ i, i ≠ j → cellE E τ σ' i = cellE E τ σ i) (hm : ∀ i, i = 554 ∨ i = 555 ∨ i = 557 ∨ i = 558 → gM σ' i = gM σ i) (hP : va_P E.1 gcl ((gws E τ σ).set j (adr E τ j, x)) H1) (hD : va_D (gA E) ((gws E τ σ).set j (adr E τ j, x))) : gHH E σ' H1 := by
  rw [gws_set hn hj hx ho] at hP hD
  refine ⟨gB_S hB hS, by rw [hn]; exact hH.2.1, fun h => ?_, τ, gTx_kept ht1 (hm _ (by decide)) (hm _ (by decide)), gTx_kept ht2 (hm _ (by decide)) (hm _ (by decide)), hP, hD⟩
  rw [hn] at h ⊢
  rw [hz h]
  exact hH.2.2 h
variable {E : gE} {μ : gMd} {d : Nat} {Q : gO → gS → Prop} {k n : Nat} {σ : gS} {pc : Nat} {lv : List (Nat × Value)} {st : List Value}
/-- a field's link: the constant idx of the class own is the field kf of class ci -/
def gFl (own : String) (idx ci kf : Nat) : Prop := ∃ (C : String) (T : u_T) (N : Nat) (ref : String), gcl[ci]? = some (C, T, N) ∧ kf < N ∧ nf ci = N ∧ (∀ w ∈ u_ws C T N, w ∈ wA) ∧ Cond.fieldLink own idx ref (T kf).2.1 (T kf).2.2.1 ∈ wA ∧ (ref = (T kf).1 ∨ Cond.sameField ref (T kf).1 (T kf).2.1 (T kf).2.2.1 ∈ wA)
/-- .. and what a store wants to know of it: its type, whether it is final -/
def gFq (own : String) (idx ci kf : Nat) (ty : FieldType) (fin : Bool) : Prop := ∃ (C : String) (T : u_T) (N : Nat) (ref : String) (ty0 : Nat → FieldType), gcl[ci]? = some (C, T, N) ∧ kf < N ∧ nf ci = N ∧ (∀ w ∈ u_ws C T N, w ∈ wA) ∧ Cond.fieldLink own idx ref (T kf).2.1 (T kf).2.2.1 ∈ wA ∧ (ref = (T kf).1 ∨ Cond.sameField ref (T kf).1 (T kf).2.1 (T kf).2.2.1 ∈ wA) ∧ (∀ k, k < N → parseFieldDescriptor (T k).2.2.1 = some (ty0 k)) ∧ (∀ a, a < N → ∀ b, b < N → a ≠ b → (T a).2.1 ≠ (T b).2.1) ∧ (T kf).2.2.2 = fin ∧ (fin = true → (T kf).1 = own) ∧ parseFieldDescriptor (T kf).2.2.1 = some ty
theorem gsame {args : Array Value} {s : State} {ref o nm de : String} (hts : ∀ w ∈ wA, w.before args s = true) (h : ref = o ∨ Cond.sameField ref o nm de ∈ wA) : ∀ x, s.fieldFound? o nm de = some x → s.fieldFound? ref nm de = some x := by
  intro x hx
  rcases h with rfl | h
  · exact hx
  · exact u_same (hts _ h) x hx
theorem g_get {own : String} {idx ci kf j : Nat} (v : Value) (hf : gFl own idx ci kf) (ho : md_o μ = own) (hkd : kd j = (0, ci)) (hj : j < gn σ) (hdg : decode (md_c μ) pc = .ok (.getfield idx, 3)) (hv : ∀ τ, fv E τ σ ci j kf = v) (kk : gG E μ d Q k n σ (pc + 3) lv (v :: st)) : gG E μ d Q k n σ pc lv (.ref (gX E + j) :: st) := by
  intro _ _ _ _ _ _ _ _ _ _ _ _ _ cx H locs cells slots ls hH hS hc hs hl
  have cx0 := cx
  obtain ⟨hx, hb, hml, hown, hts, hKK, -⟩ := cx0
  obtain ⟨C, T, N, ref, hc1, hk, hnf, hw, hlk, hsm⟩ := hf
  obtain ⟨hB, h572, hsz, τ, ht1, ht2, hP, hD⟩ := id hH
  have he : (gws E τ σ)[j]? = some (gX E + j, .inr (ci, fvs E τ σ ci j)) := by rw [gws_at hj, cellE_0 hkd, adr_of (by rw [hkd]; show (0 : Nat) ≠ 7; decide)]
  have hfv : (fvs E τ σ ci j)[kf]? = some v := by rw [fvs_at (by rw [hnf]; exact hk), hv]
  exact va_get (D := E.1) (ci := ci) (v := v) hx hb hts hw (by rw [← ho]; exact hown) hKK.1 hP j he hc1 kf hk (hts _ hlk) (gsame hts hsm) hfv hdg (kk _ _ _ _ _ _ _ _ _ _ _ _ _ cx H locs cells slots ls hH hS hc hs hl)
theorem g_iald {i : Int32} {j N : Nat} (hkd : kd j = (1, N)) (hj : j < gn σ) (hi : vp_in i N) (hdg : decode (md_c μ) pc = .ok (.iaload, 1)) (kk : gG E μ d Q k n σ (pc + 1) lv (.int (gM σ j i.toNatClampNeg) :: st)) : gG E μ d Q k n σ pc lv (.int i :: .ref (gX E + j) :: st) := by
  intro _ _ _ _ _ _ _ _ _ _ _ _ _ cx H locs cells slots ls hH hS hc hs hl
  have cx0 := cx
  obtain ⟨hx, hb, hml, hown, hts, hKK, -⟩ := cx0
  obtain ⟨hB, h572, hsz, τ, ht1, ht2, hP, hD⟩ := id hH
  have he : (gws E τ σ)[j]? = some (gX E + j, .inl (gar E 0, N, .inl (gM σ j))) := by rw [gws_at hj, cellE_1 hkd, adr_of (by rw [hkd]; show (1 : Nat) ≠ 7; decide)]
  exact va_iald (D := E.1) hx hb hKK.1 hP j 0 he rfl hi hdg (kk _ _ _ _ _ _ _ _ _ _ _ _ _ cx H locs cells slots ls hH hS hc hs hl)
theorem g_cald {i : Int32} {j N : Nat} (hkd : kd j = (2, N)) (hj : j < gn σ) (hi : vp_in i N) (hdg : decode (md_c μ) pc = .ok (.caload, 1)) (kk : gG E μ d Q k n σ (pc + 1) lv (.int (gM σ j i.toNatClampNeg) :: st)) : gG E μ d Q k n σ pc lv (.int i :: .ref (gX E + j) :: st) := by
  intro _ _ _ _ _ _ _ _ _ _ _ _ _ cx H locs cells slots ls hH hS hc hs hl
  have cx0 := cx
  obtain ⟨hx, hb, hml, hown, hts, hKK, -⟩ := cx0
  obtain ⟨hB, h572, hsz, τ, ht1, ht2, hP, hD⟩ := id hH
  have he : (gws E τ σ)[j]? = some (gX E + j, .inl (gar E 1, N, .inl (gM σ j))) := by rw [gws_at hj, cellE_2 hkd, adr_of (by rw [hkd]; show (2 : Nat) ≠ 7; decide)]
  exact va_cald (D := E.1) hx hb hKK.1 hP j 1 he rfl hi hdg (kk _ _ _ _ _ _ _ _ _ _ _ _ _ cx H locs cells slots ls hH hS hc hs hl)
theorem g_lald {i : Int32} {j N : Nat} (hkd : kd j = (3, N)) (hj : j < gn σ) (hi : vp_in i N) (hdg : decode (md_c μ) pc = .ok (.laload, 1)) (kk : gG E μ d Q k n σ (pc + 1) lv (.long (gL σ j i.toNatClampNeg) :: st)) : gG E μ d Q k n σ pc lv (.int i :: .ref (gX E + j) :: st) := by
  intro _ _ _ _ _ _ _ _ _ _ _ _ _ cx H locs cells slots ls hH hS hc hs hl
  have cx0 := cx
  obtain ⟨hx, hb, hml, hown, hts, hKK, -⟩ := cx0
  obtain ⟨hB, h572, hsz, τ, ht1, ht2, hP, hD⟩ := id hH
  have he : (gws E τ σ)[j]? = some (gX E + j, .inl (gar E 2, N, .inr (.inl (gL σ j)))) := by rw [gws_at hj, cellE_3 hkd, adr_of (by rw [hkd]; show (3 : Nat) ≠ 7; decide)]
  exact va_lald (D := E.1) hx hb hKK.1 hP j 2 he rfl hi hdg (kk _ _ _ _ _ _ _ _ _ _ _ _ _ cx H locs cells slots ls hH hS hc hs hl)
theorem g_dald {i : Int32} {j N : Nat} (hkd : kd j = (6, N)) (hj : j < gn σ) (hi : vp_in i N) (hdg : decode (md_c μ) pc = .ok (.daload, 1)) (kk : gG E μ d Q k n σ (pc + 1) lv (.double (gF σ i.toNatClampNeg) :: st)) : gG E μ d Q k n σ pc lv (.int i :: .ref (gX E + j) :: st) := by
  intro _ _ _ _ _ _ _ _ _ _ _ _ _ cx H locs cells slots ls hH hS hc hs hl
  have cx0 := cx
  obtain ⟨hx, hb, hml, hown, hts, hKK, -⟩ := cx0
  obtain ⟨hB, h572, hsz, τ, ht1, ht2, hP, hD⟩ := id hH
  have he : (gws E τ σ)[j]? = some (gX E + j, .inl (gar E 5, N, .inr (.inr (.inr (.inl (gF σ)))))) := by rw [gws_at hj, cellE_6 hkd, adr_of (by rw [hkd]; show (6 : Nat) ≠ 7; decide)]
  exact va_dald (D := E.1) hx hb hKK.1 hP j 5 he rfl hi hdg (kk _ _ _ _ _ _ _ _ _ _ _ _ _ cx H locs cells slots ls hH hS hc hs hl)
/-- aaload of an array of arrays -/
theorem va_aldg {D : va_G} {cl : List vw_C} {ws : va_W} {tys : List (ClassId × FieldType)} {p : Program} {l : Launch} {e : Env} {R : Room} {s : State} {m : MethodId} {args : Array Value} {below : List Frame} {meth : Method} {c : Code} {H : Heap} {locs : List Loc} {cells slots : Nat} {Q : State → Prop} {cc : ByteArray} {pc a : Nat} {ls : Array Slot} {rest : List Value} (hexec : p.tables.exec = Jvm.exec) (hb : c.code = cc) (hK : va_K D cl tys s) (hP : va_P D cl ws H) (q0 t0 : Nat) {cA : ClassId} {C : FieldType} {n : Nat} {f : Nat → Option Nat} (ha : ws[q0]? = some (a, .inl (cA, n, .inr (.inr (.inr (.inr f)))))) (ht : tys[t0]? = some (cA, .array C)) {i : Int32} (hin : vp_in i n) (hdg : decode cc pc = .ok (.aaload, 1))
    (kk : W p l e R s m args below meth c H locs cells slots Q (F0 m (pc + 1) ls (va_rf (f i.toNatClampNeg) :: rest))) : W p l e R s m args below meth c H locs cells slots Q (F0 m pc ls (.int i :: .ref a :: rest)) := by
  have hlt : i.toNatClampNeg < n := Nat.not_le.mp fun q => hin (Or.inr q)
  exact W.aald (v := va_rf (f i.toNatClampNeg)) (ty := .array C) hexec hb (hP q0 _ ha) ((hK.2 t0 _ ht).1 n (fun j => va_rf (f j))) rfl (fun q => by cases q) (by show ¬ (i < 0 ∨ (arrV _ _ _).slots.size ≤ _); rw [arrV_size]; exact hin) (by show (arrV _ _ _).slots[_]? = _; rw [arrV_read _ _ hlt]) rfl rfl hdg kk
/-- a row out of a grid -/
theorem g_aald {i : Int32} {j N a : Nat} (hkd : kd j = (4, N)) (hj : j < gn σ) (ha : i = nI a) (hi : a < N) (hN : N < 2 ^ 31) (hdg : decode (md_c μ) pc = .ok (.aaload, 1)) (kk : gG E μ d Q k n σ (pc + 1) lv (.ref (gX E + (j + 1 + a)) :: st)) : gG E μ d Q k n σ pc lv (.int i :: .ref (gX E + j) :: st) := by
  intro _ _ _ _ _ _ _ _ _ _ _ _ _ cx H locs cells slots ls hH hS hc hs hl
  have cx0 := cx
  obtain ⟨hx, hb, hml, hown, hts, hKK, -⟩ := cx0
  obtain ⟨hB, h572, hsz, τ, ht1, ht2, hP, hD⟩ := id hH
  have he : (gws E τ σ)[j]? = some (gX E + j, .inl (gar E 3, N, .inr (.inr (.inr (.inr (fun i => if i < N then some (gX E + (j + 1 + i)) else none)))))) := by rw [gws_at hj, cellE_4 hkd, adr_of (by rw [hkd]; show (4 : Nat) ≠ 7; decide)]
  have ec : i.toNatClampNeg = a := by rw [ha]; exact nI_clamp (by omega)
  refine va_aldg (D := E.1) hx hb hKK.1 hP j 3 he rfl (by rw [ha]; exact vp_in_nI hi hN) hdg ?_
  rw [ec, if_pos hi]
  exact kk _ _ _ _ _ _ _ _ _ _ _ _ _ cx H locs cells slots ls hH hS hc hs hl
/-- a book out of the ring -/
theorem g_aaldB {i : Int32} {a : Nat} (hj : 102 < gn σ) (ha : i = nI a) (hi : a < 9) (hr : gR σ 102 a = true) (hdg : decode (md_c μ) pc = .ok (.aaload, 1)) (kk : gG E μ d Q k n σ (pc + 1) lv (.ref (gX E + (103 + 50 * a)) :: st)) : gG E μ d Q k n σ pc lv (.int i :: .ref (gX E + 102) :: st) := by
  intro _ _ _ _ _ _ _ _ _ _ _ _ _ cx H locs cells slots ls hH hS hc hs hl
  have cx0 := cx
  obtain ⟨hx, hb, hml, hown, hts, hKK, -⟩ := cx0
  obtain ⟨hB, h572, hsz, τ, ht1, ht2, hP, hD⟩ := id hH
  have he : (gws E τ σ)[102]? = some (gX E + 102, .inl (gar E 4, 9, .inr (.inr (.inr (.inr (fun i => if gR σ 102 i = true then some (gX E + (103 + 50 * i)) else none)))))) := by rw [gws_at hj, cellE_5 (N := 9) (by decide), adr_of (by decide)]
  have ec : i.toNatClampNeg = a := by rw [ha]; exact nI_clamp (by omega)
  refine va_aldq (D := E.1) (C := "PaperBoatInsurer$Book") hx hb hKK.1 hP 102 4 he rfl (by rw [ha]; exact vp_in_nI hi (by decide)) hdg ?_
  rw [ec, if_pos hr]
  exact kk _ _ _ _ _ _ _ _ _ _ _ _ _ cx H locs cells slots ls hH hS hc hs hl
theorem g_alen {j t N : Nat} (v : Int32) (hkd : kd j = (t, N)) (ht : t ∈ [1, 2, 3, 4, 5, 6]) (hj : j < gn σ) (hv : Int32.ofNat N = v) (hdg : decode (md_c μ) pc = .ok (.arraylength, 1)) (kk : gG E μ d Q k n σ (pc + 1) lv (.int v :: st)) : gG E μ d Q k n σ pc lv (.ref (gX E + j) :: st) := by
  intro _ _ _ _ _ _ _ _ _ _ _ _ _ cx H locs cells slots ls hH hS hc hs hl
  have cx0 := cx
  obtain ⟨hx, hb, hml, hown, hts, hKK, -⟩ := cx0
  obtain ⟨hB, h572, hsz, τ, ht1, ht2, hP, hD⟩ := id hH
  have hk := kk _ _ _ _ _ _ _ _ _ _ _ _ _ cx H locs cells slots ls hH hS hc hs hl
  have ha : adr E τ j = gX E + j := adr_of (by rw [hkd]; intro h9; have h9 : t = 7 := h9; subst h9; exact absurd ht (by decide))
  have hg := gws_at (E := E) (τ := τ) hj
  rw [ha] at hg
  simp only [List.mem_cons, List.not_mem_nil, or_false] at ht
  rcases ht with rfl | rfl | rfl | rfl | rfl | rfl
  · rw [cellE_1 hkd] at hg
    exact va_alen (D := E.1) hx hb hKK.1 hP j 0 hg rfl hv hdg hk
  · rw [cellE_2 hkd] at hg
    exact va_alen (D := E.1) hx hb hKK.1 hP j 1 hg rfl hv hdg hk
  · rw [cellE_3 hkd] at hg
    exact va_alen (D := E.1) hx hb hKK.1 hP j 2 hg rfl hv hdg hk
  · rw [cellE_4 hkd] at hg
    exact va_alen (D := E.1) hx hb hKK.1 hP j 3 hg rfl hv hdg hk
  · rw [cellE_5 hkd] at hg
    exact va_alen (D := E.1) hx hb hKK.1 hP j 4 hg rfl hv hdg hk
  · rw [cellE_6 hkd] at hg
    exact va_alen (D := E.1) hx hb hKK.1 hP j 5 hg rfl hv hdg hk
end GHEAP
