/-! the flat machine: a body gives a contract; throws, catches, what the JDK does in one row -/
section GENTRY
variable {E : gE} {μ : gMd} {d : Nat} {Q : gO → gS → Prop} {k n : Nat} {σ : gS} {pc : Nat} {lv : List (Nat × Value)} {st : List Value}
theorem gret_of {mc ms : Nat} {p : Program} {l : Launch} {e : Env} {R : Room} {s : State} {m : MethodId} {args : Array Value} {below : List Frame} {meth : Method} {c : Code} (hx : p.tables.exec = Jvm.exec) (hb : c.code = md_c μ) (hr : meth.sig.returnType = md_r μ) (hlocks : meth.locks = false) :
    ∀ (v : Option Value) (pc : Nat) (ls : Array Slot) (st : List Value) (H : Heap) (locs : List Loc) (cells slots : Nat) (σ : gS), gRet (md_c μ) (md_r μ) pc v st → Q (.inl v) σ → gHH E σ H → va_S (gA E) s.heap H locs → cells ≤ mc → slots ≤ ms → W p l e R s m args below meth c H locs cells slots (vx_MQ below (gQC E Q) (gXC E Q) args s mc ms (gA E)) (F0 m pc ls st) := by
  intro v pc ls st H locs cells slots σ h0 hq hH hS hc hs
  refine vx_ret (W.widen hc hs ?_)
  rcases h0 with ⟨e1, rfl, rfl, hd⟩ | ⟨x, ty, e1, hn, rfl, rfl, hd⟩ | ⟨x, e1, rfl, rfl, hd⟩ | ⟨x, e1, rfl, rfl, hd⟩ | ⟨x, e1, rfl, rfl, hd⟩ | ⟨x, nm, e1, rfl, rfl, hd⟩
  · exact W.vret hx hb (hr.trans e1) (fun t ht _ => ⟨none, σ, rfl, hq, by rw [ht]; exact hH, hS.F ht⟩) hS.2.2 hd hlocks
  · exact W.zret hx hb (hr.trans e1) hn (fun t ht _ => ⟨_, σ, rfl, hq, by rw [ht]; exact hH, hS.F ht⟩) hS.2.2 hd hlocks
  · exact W.lret hx hb (hr.trans e1) (fun t ht _ => ⟨_, σ, rfl, hq, by rw [ht]; exact hH, hS.F ht⟩) hS.2.2 hd hlocks
  · exact W.fret hx hb (hr.trans e1) (fun t ht _ => ⟨_, σ, rfl, hq, by rw [ht]; exact hH, hS.F ht⟩) hS.2.2 hd hlocks
  · exact W.dret hx hb (hr.trans e1) (fun t ht _ => ⟨_, σ, rfl, hq, by rw [ht]; exact hH, hS.F ht⟩) hS.2.2 hd hlocks
  · exact W.aret hx hb (hr.trans e1) (Or.inl ⟨_, rfl⟩) (Or.inr ⟨_, rfl⟩) (fun t ht _ => ⟨_, σ, rfl, hq, by rw [ht]; exact hH, hS.F ht⟩) hS.2.2 hd hlocks
/-- a method's name fits its description -/
def gOk (μ : gMd) : Prop := plainName (md_y μ).cls = true ∧ (md_y μ).cls = md_o μ ∧ md_l μ = false
theorem CT.of {mc ms : Nat} {As : List Value} (h0 : gOk μ) (hh : md_h μ = []) (hlen : (lg_sl As).length ≤ md_n μ) (body : gG E μ d Q mc ms σ 0 (lv_args 0 As) []) : CT E μ d mc ms As σ Q := by
  intro l hl0
  refine vx_ofW (cc := md_c μ) (maxL := md_n μ) (ret := md_r μ) h0.1 (by rw [gcw_plain hh]) ?_
  intro p e s m args below meth c s₁ B hml htab hv
  obtain ⟨rfl, hKK, hH⟩ := hv
  have hts := atoms_spec (ws := gcw μ :: wA) B.pre
  have hown : s.vm.findClass (md_o μ) = some m.cls := by rw [← h0.2.1]; exact findClass_of_methodNamed B.named
  have hin := (name_of_methodNamed B.named B.method).1
  rw [lg_entry_eq]
  refine body mc ms p l e _ s m _ below meth c _ ⟨B.exec, B.bytes, hml, hown, fun w hw => hts w (List.mem_cons_of_mem _ hw), hKK, ⟨Nat.le_refl _, Nat.le_refl _, rfl, rfl⟩, hH.1, hl0, B.notSynchronized, ?_, fun _ => rfl, gret_of B.exec B.bytes B.returns B.notSynchronized, fun h => hin.trans h⟩ s.heap [] 0 0 _ hH va_S.rf (by omega) (by omega) (lv_entry As hlen)
  rw [hh]
  cases ht : c.exceptionTable.toList with
  | nil => rfl
  | cons x xs => exact (htab x (by rw [ht]; exact List.mem_cons_self)).elim
theorem CT.ofH {mc ms : Nat} {As : List Value} (h0 : gOk μ) {q : Nat × Nat × Nat × Nat} {hs : List (Nat × Nat × Nat × Nat)} (hh : md_h μ = q :: hs) (hlen : (lg_sl As).length ≤ md_n μ) (body : gG E μ d Q mc ms σ 0 (lv_args 0 As) []) : CT E μ d mc ms As σ Q := by
  intro l hl0
  have hcw : gcw μ = .codeWith (md_y μ) (md_c μ) (md_n μ) (md_r μ) (q :: hs) := by
    unfold gcw
    rw [hh]
  refine vx_ofWH (cc := md_c μ) (maxL := md_n μ) (ret := md_r μ) (hh := q :: hs) h0.1 (by rw [hcw]) ?_
  intro p e s m args below meth c s₁ B hml hv
  obtain ⟨rfl, hKK, hH⟩ := hv
  have hts := atoms_spec (ws := gcw μ :: wA) B.pre
  have htab := vx_table (x := md_y μ) B (by rw [← hcw]; exact hts _ List.mem_cons_self)
  have hown : s.vm.findClass (md_o μ) = some m.cls := by rw [← h0.2.1]; exact findClass_of_methodNamed B.named
  have hin := (name_of_methodNamed B.named B.method).1
  rw [lg_entry_eq]
  exact body mc ms p l e _ s m _ below meth c _ ⟨B.exec, B.bytes, hml, hown, fun w hw => hts w (List.mem_cons_of_mem _ hw), hKK, ⟨Nat.le_refl _, Nat.le_refl _, rfl, rfl⟩, hH.1, hl0, B.notSynchronized, by rw [hh]; exact htab, fun _ => rfl, gret_of B.exec B.bytes B.returns B.notSynchronized, fun h => hin.trans h⟩ s.heap [] 0 0 _ hH va_S.rf (by omega) (by omega) (lv_entry As hlen)
/-- a contract says less -/
theorem CT.mono {μ' : gMd} {d' mc ms : Nat} {As : List Value} {Q1 Q2 : gO → gS → Prop} (h : CT E μ' d' mc ms As σ Q1) (hq : ∀ o σ', Q1 o σ' → Q2 o σ') : CT E μ' d' mc ms As σ Q2 := fun l hl =>
  MetFree.mono (h l hl) (fun _ _ h => h) (fun _ _ _ _ _ h => h) (fun a s o s' _ h9 => h9.elim (fun ⟨⟨v, σ', e1, e2, e3, e4⟩, h5⟩ => Or.inl ⟨⟨v, σ', e1, hq _ _ e2, e3, e4⟩, h5⟩) (fun ⟨q, e0, En, ce, L, ⟨σ', h1, h2, h3⟩, h4⟩ => Or.inr ⟨q, e0, En, ce, L, ⟨σ', hq _ _ h1, h2, h3⟩, h4⟩))
/-- the handler x takes it; the rows ahead of it don't -/
theorem g_catch {rest : List Value} {En nm : String} (pre : List (Nat × Nat × Nat × Nat)) (x : Nat × Nat × Nat × Nat) (suf : List (Nat × Nat × Nat × Nat)) (hh : md_h μ = pre ++ x :: suf) (hpass : ∀ z ∈ pre, ¬ (z.1 ≤ pc ∧ pc < z.2.1)) (hx : x.1 ≤ pc ∧ pc < x.2.1) (h0 : x.2.2.2 ≠ 0) (hlk : Cond.classLink (md_o μ) x.2.2.2 nm ∈ wA) (hcast : Cond.castable En nm ∈ wN) (kk : ∀ q : Nat, gG E μ d Q k n σ x.2.2.1 lv [.ref q]) : gGx E μ d Q k n σ pc lv rest En := by
  intro mcT msT p l e R s m args below meth c Z cx H locs cells slots ls q ce hH hS hc hs hl hce hcv hcl
  have cx0 := cx
  obtain ⟨hx1, hb, hml, hown, hts, hKK, hR, hB, hl0, hlocks, htab, -⟩ := cx0
  rw [hh] at htab
  refine vx_catch (own := md_o μ) (name := nm) hown (tableOf pre) ⟨x.1, x.2.1, x.2.2.1, x.2.2.2⟩ (tableOf suf) (by rw [htab]; unfold tableOf; rw [List.map_append, List.map_cons]) ?_ ?_ h0 (hts _ hlk) (va_Nw.use rfl (hKK.2.2.2.2.1 _ hcast)) hce hcv hcl (kk q mcT msT p l e R s m args below meth c Z cx H locs cells slots ls hH hS hc hs hl)
  · intro z hz
    obtain ⟨z0, hz0, rfl⟩ := List.mem_map.mp hz
    left
    have h9 := hpass z0 hz0
    unfold covers
    by_cases h1 : z0.1 ≤ pc
    · have h2 : ¬ pc < z0.2.1 := fun h => h9 ⟨h1, h⟩
      simp [h2]
    · simp [h1]
  · unfold covers
    simp [hx.1, hx.2]
/-- .. the rows ahead of it cover the place, but name other classes -/
theorem g_catch2 {rest : List Value} {En nm : String} (pre : List (Nat × Nat × Nat × Nat)) (x : Nat × Nat × Nat × Nat) (suf : List (Nat × Nat × Nat × Nat)) (hh : md_h μ = pre ++ x :: suf) (hpass : ∀ z ∈ pre, z.2.2.2 ≠ 0 ∧ ∃ nz : String, Cond.classLink (md_o μ) z.2.2.2 nz ∈ wA ∧ ∀ s, gKK E s → va_Nc En nz s) (hx : x.1 ≤ pc ∧ pc < x.2.1) (h0 : x.2.2.2 ≠ 0) (hlk : Cond.classLink (md_o μ) x.2.2.2 nm ∈ wA) (hcast : Cond.castable En nm ∈ wN) (kk : ∀ q : Nat, gG E μ d Q k n σ x.2.2.1 lv [.ref q]) : gGx E μ d Q k n σ pc lv rest En := by
  intro mcT msT p l e R s m args below meth c Z cx H locs cells slots ls q ce hH hS hc hs hl hce hcv hcl
  have cx0 := cx
  obtain ⟨hx1, hb, hml, hown, hts, hKK, hR, hB, hl0, hlocks, htab, -⟩ := cx0
  rw [hh] at htab
  refine vx_catch (own := md_o μ) (name := nm) hown (tableOf pre) ⟨x.1, x.2.1, x.2.2.1, x.2.2.2⟩ (tableOf suf) (by rw [htab]; unfold tableOf; rw [List.map_append, List.map_cons]) ?_ ?_ h0 (hts _ hlk) (va_Nw.use rfl (hKK.2.2.2.2.1 _ hcast)) hce hcv hcl (kk q mcT msT p l e R s m args below meth c Z cx H locs cells slots ls hH hS hc hs hl)
  · intro z hz
    obtain ⟨z0, hz0, rfl⟩ := List.mem_map.mp hz
    obtain ⟨h1, nz, h2, h3⟩ := hpass z0 hz0
    exact Or.inr ⟨h1, nz, hts _ h2, h3 s hKK⟩
  · unfold covers
    simp [hx.1, hx.2]
/-- a throw of the class' own: the site's words -/
def gTh (own : String) (ik is ic : Nat) (X : String) (names : List String) : Prop := (∃ text : String, (own, is, text) ∈ gStr) ∧ Bundle.fit X = true ∧ (∀ nm ∈ names, Bundle.fit nm = true) ∧ Cond.classLink own ik X ∈ wA ∧ Cond.initialized X ∈ wA ∧ (∀ w ∈ vx_atS own ic X names, w ∈ wA ∨ w ∈ wN) ∧ names.length ≤ 3
theorem vx_ot_wA {w : Cond} (h : w ∈ wA ∨ w ∈ wN) : vx_ot w = true := by
  rcases h with h | h
  · have := wA_g h
    unfold vx_ot
    rw [this, Bool.or_true]
  · have := (List.mem_filter.mp h).2
    unfold vx_ot
    cases w <;> first | rfl | exact absurd this (by simp [gNest])
theorem gZq {E : gE} {C nm de : String} {U : State} {H : Heap} (h : vx_Zq C nm de (gA E) U (gHb E)) (hB : gB E H) (hX : (gHb E).size = gX E) : vx_Zq C nm de (gA E) U H := h.kept (fun a ha _ => hB.2 a (by rw [← hX]; exact ha))
theorem g_throwS {own : String} {ik is ic : Nat} {X : String} {names : List String} (hl0 : md_l μ = false) (hs : gTh own ik is ic X names) (ho : md_o μ = own) (hh : md_h μ = []) (hn : gn σ = 572) (hd : 7 ≤ d) (hk : 1 ≤ k) (hn6 : 6 ≤ n) (hst : (st.map fun v => v.category).sum ≤ 8)
    (d0 : decode (md_c μ) pc = .ok (.new ik, 3)) (d3 : decode (md_c μ) (pc + 3) = .ok (.dup, 1)) (d4 : decode (md_c μ) (pc + 4) = .ok (.ldc is, 2)) (d6 : decode (md_c μ) (pc + 6) = .ok (.invokespecial ic, 3)) (d9 : decode (md_c μ) (pc + 9) = .ok (.athrow, 1)) (hq : Q (.inr X) σ) : gG E μ d Q k n σ pc lv st := by
  intro mcT msT p l e R s m args below meth c Z cx H locs cells slots ls hH hS hc hss hl
  obtain ⟨hx, hb, hml, hown, hts, hKK, hR, hB, hl1, hlocks, htab, hZ, -⟩ := cx
  obtain ⟨⟨text, htx⟩, hf1, hf2, hlk, hini, hat, h3⟩ := hs
  obtain ⟨sa, hsa⟩ := hKK.2.2.2.1 _ htx
  have hw : ∀ w ∈ vx_atS own ic X names, w.before args s = true := fun w hw => (hat w hw).elim (hts w) (fun h => va_Nw.use (by have := (List.mem_filter.mp h).2; cases w <;> first | rfl | exact absurd this (by simp [gNest])) (hKK.2.2.2.2.1 w h))
  rw [hZ hl0]
  have hX := hKK.2.2.2.2.2.2.1
  refine vx_throwS (own := own) (cls := X) (names := names) (text := text) (A := gA E) hx hb hl1 (by rw [← ho]; exact hown) hf1 hf2 (hts _ hlk) (hts _ hini) hsa hw (fun w hw => ?_) (gZq hKK.2.1 hB hX) (gZq hKK.2.2.1 hB hX) hS (by rw [hl.1, hml]) d0 d3 d4 d6 d9 (gtab (pc := pc + 9) htab (fun z hz => by rw [hh] at hz; exact absurd hz List.not_mem_nil)) (by omega) (by omega) (by rw [hR.2.2.1]; omega) (by rw [hR.2.2.2]; omega) hlocks (fun t hA hz hkeep => ?_) hS.2.2 (by omega) (by omega)
  · rcases List.mem_cons.mp hw with rfl | hw
    · exact vx_ot_wA (Or.inl hlk)
    · rcases List.mem_cons.mp hw with rfl | hw
      · exact vx_ot_wA (Or.inl hini)
      · exact vx_ot_wA (hat w hw)
  · obtain ⟨hBB, h572, hsz, τ, ht1, ht2, hP, hD⟩ := hH
    refine ⟨σ, hq, ⟨⟨Nat.le_trans hBB.1 hz, fun q h => by rw [hkeep q (Nat.lt_of_lt_of_le h hBB.1)]; exact hBB.2 q h⟩, h572, fun h => absurd h (by rw [hn]; decide), τ, ht1, ht2, hP.kept (fun k9 q h => hkeep _ (vx_lt hP h)), hD⟩, Nat.le_trans hS.1 hz, fun q h1 h2 => ?_⟩
    rw [hkeep q (Nat.lt_of_lt_of_le h1 hS.1)]
    exact hS.2.1 q h1 h2
theorem g_throwSW {own : String} {ik is ic : Nat} {X : String} {names : List String} (hl0 : md_l μ = false) (hs : gTh own ik is ic X names) (ho : md_o μ = own) (hh : md_h μ = []) (hn : gn σ = 572) (hd : 7 ≤ d) (hk : 1 ≤ k) (hn6 : 6 ≤ n) (hst : (st.map fun v => v.category).sum ≤ 8)
    (d0 : decode (md_c μ) pc = .ok (.new ik, 3)) (d3 : decode (md_c μ) (pc + 3) = .ok (.dup, 1)) (d4 : decode (md_c μ) (pc + 4) = .ok (.ldc_w is, 3)) (d7 : decode (md_c μ) (pc + 7) = .ok (.invokespecial ic, 3)) (d10 : decode (md_c μ) (pc + 10) = .ok (.athrow, 1)) (hq : Q (.inr X) σ) : gG E μ d Q k n σ pc lv st := by
  intro mcT msT p l e R s m args below meth c Z cx H locs cells slots ls hH hS hc hss hl
  obtain ⟨hx, hb, hml, hown, hts, hKK, hR, hB, hl1, hlocks, htab, hZ, -⟩ := cx
  obtain ⟨⟨text, htx⟩, hf1, hf2, hlk, hini, hat, h3⟩ := hs
  obtain ⟨sa, hsa⟩ := hKK.2.2.2.1 _ htx
  have hw : ∀ w ∈ vx_atS own ic X names, w.before args s = true := fun w hw => (hat w hw).elim (hts w) (fun h => va_Nw.use (by have := (List.mem_filter.mp h).2; cases w <;> first | rfl | exact absurd this (by simp [gNest])) (hKK.2.2.2.2.1 w h))
  rw [hZ hl0]
  have hX := hKK.2.2.2.2.2.2.1
  refine vx_throwSW (own := own) (cls := X) (names := names) (text := text) (A := gA E) hx hb hl1 (by rw [← ho]; exact hown) hf1 hf2 (hts _ hlk) (hts _ hini) hsa hw (fun w hw => ?_) (gZq hKK.2.1 hB hX) (gZq hKK.2.2.1 hB hX) hS (by rw [hl.1, hml]) d0 d3 d4 d7 d10 (gtab (pc := pc + 10) htab (fun z hz => by rw [hh] at hz; exact absurd hz List.not_mem_nil)) (by omega) (by omega) (by rw [hR.2.2.1]; omega) (by rw [hR.2.2.2]; omega) hlocks (fun t hA hz hkeep => ?_) hS.2.2 (by omega) (by omega)
  · rcases List.mem_cons.mp hw with rfl | hw
    · exact vx_ot_wA (Or.inl hlk)
    · rcases List.mem_cons.mp hw with rfl | hw
      · exact vx_ot_wA (Or.inl hini)
      · exact vx_ot_wA (hat w hw)
  · obtain ⟨hBB, h572, hsz, τ, ht1, ht2, hP, hD⟩ := hH
    refine ⟨σ, hq, ⟨⟨Nat.le_trans hBB.1 hz, fun q h => by rw [hkeep q (Nat.lt_of_lt_of_le h hBB.1)]; exact hBB.2 q h⟩, h572, fun h => absurd h (by rw [hn]; decide), τ, ht1, ht2, hP.kept (fun k9 q h => hkeep _ (vx_lt hP h)), hD⟩, Nat.le_trans hS.1 hz, fun q h1 h2 => ?_⟩
    rw [hkeep q (Nat.lt_of_lt_of_le h1 hS.1)]
    exact hS.2.1 q h1 h2
end GENTRY
