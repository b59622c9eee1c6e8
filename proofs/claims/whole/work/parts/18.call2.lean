/-! the flat machine: the other calls -/
section GCALL2
variable {E : gE} {μ : gMd} {d : Nat} {Q : gO → gS → Prop} {k n : Nat} {σ : gS} {pc : Nat} {lv : List (Nat × Value)} {st : List Value}
theorem g_callA {own : String} {idx ci j nA d' mc ms : Nat} {μ' : gMd} {As rest : List Value} {Q' : gO → gS → Prop} (hs : gSA own idx ci μ' nA) (ho : md_o μ = own) (hm : CT E μ' d' mc ms (.ref (gX E + j) :: As) σ Q') (hkd : kd j = (0, ci)) (hj : j < gn σ) (hst : st = As.reverse ++ .ref (gX E + j) :: rest) (hnA : As.length = nA) (hcat : (rest.map fun v => v.category).sum ≤ 8) (hd : d' + 1 ≤ d) (hk : mc ≤ k) (hn : ms ≤ n) (hdg : decode (md_c μ) pc = .ok (.invokevirtual idx, 3))
    (kk : ∀ (v : Option Value) (σ' : gS), Q' (.inl v) σ' → gG E μ d Q (k - mc) (n - ms) σ' (pc + 3) lv (v.toList ++ rest)) (kx : ∀ (En : String) (σ' : gS), Q' (.inr En) σ' → gGx E μ d Q (k - mc) (n - ms) σ' pc lv rest En) : gG E μ d Q k n σ pc lv st := by
  refine g_runx hk hn (fun mcT msT p l e R s m args below meth c Z cx H locs cells slots ls hH hc hss hl => ?_) kk kx
  obtain ⟨hx, hb, hml, hown, hts, hKK, hR, hB, hl0, -⟩ := cx
  obtain ⟨C, T, N, x, owner, hc1, hh, hw, hcw, hdc, hnm, hn40⟩ := hs
  obtain ⟨hBB, h572, hsz, τ, ht1, ht2, hP, hD⟩ := id hH
  have he : (gws E τ σ)[j]? = some (gX E + j, .inr (ci, fvs E τ σ ci j)) := by rw [gws_at hj, cellE_0 hkd, adr_of (by rw [hkd]; show (0 : Nat) ≠ 7; decide)]
  have hT : GoodIn wA (va_wsU own idx C owner x (md_y μ') (gcw μ' :: wA)) := good_cat hw hcw
  exact ⟨_, vx_runU (g := F0 m pc ls st) (nL := md_n μ) ⟨hx, hb, hml, by rw [← ho]; exact hown, hts⟩ (hm l hl0) (va_cwA nA hts hT (by rw [gcw_plain hh]) rfl rfl (hKK.2.2.2.2.1 _ hdc) hnm (groom ⟨hR.1, hR.2.1⟩ hd hn40)) ⟨gPc_blind _ _ _, va_recv hKK.1 hP hc1 he, fun U hU hW => ⟨rfl, hKK.moved hW, by rw [hU]; exact hH⟩⟩ rfl hnA hl.1 hst (lv_room hcat) hdg ⟨by rw [hR.2.2.1]; omega, by rw [hR.2.2.2]; omega⟩⟩
theorem g_callW {own : String} {idx ci j nA d' mc ms : Nat} {μ' : gMd} {As rest : List Value} {Q' : gO → gS → Prop} (hs : gSW own idx ci μ' nA) (ho : md_o μ = own) (hm : CT E μ' d' mc ms (.ref (gX E + j) :: As) σ Q') (hnx : ∀ En σ', ¬ Q' (.inr En) σ') (hkd : kd j = (0, ci)) (hj : j < gn σ) (hst : st = As.reverse ++ .ref (gX E + j) :: rest) (hnA : As.length = nA) (hcat : (rest.map fun v => v.category).sum ≤ 8) (hd : d' + 1 ≤ d) (hk : mc ≤ k) (hn : ms ≤ n) (hdg : decode (md_c μ) pc = .ok (.invokevirtual idx, 3))
    (kk : ∀ (v : Option Value) (σ' : gS), Q' (.inl v) σ' → gG E μ d Q (k - mc) (n - ms) σ' (pc + 3) lv (v.toList ++ rest)) : gG E μ d Q k n σ pc lv st := by
  refine g_runm hk hn (fun mcT msT p l e R s m args below meth c Z cx H locs cells slots ls hH hc hss hl => ?_) kk
  obtain ⟨hx, hb, hml, hown, hts, hKK, hR, hB, hl0, -⟩ := cx
  obtain ⟨C, T, N, hc1, hh, hw, hcw, hyC, hnm, hn40⟩ := hs
  obtain ⟨hBB, h572, hsz, τ, ht1, ht2, hP, hD⟩ := id hH
  have he : (gws E τ σ)[j]? = some (gX E + j, .inr (ci, fvs E τ σ ci j)) := by rw [gws_at hj, cellE_0 hkd, adr_of (by rw [hkd]; show (0 : Nat) ≠ 7; decide)]
  have hT : GoodIn wA (wsV own idx C (md_y μ') (gcw μ' :: wA)) := good_cat hw hcw
  have hcc : ∃ q hs, md_h μ' = q :: hs := by
    cases h : md_h μ' with
    | nil => exact absurd h hh
    | cons q hs => exact ⟨q, hs, rfl⟩
  obtain ⟨q, hs, hq⟩ := hcc
  have hcw' : gcw μ' = .codeWith (md_y μ') (md_c μ') (md_n μ') (md_r μ') (q :: hs) := by
    unfold gcw
    rw [hq]
  exact ⟨_, vx_runVW (g := F0 m pc ls st) (nL := md_n μ) ⟨hx, hb, hml, by rw [← ho]; exact hown, hts⟩ (hm.met hnx l hl0) (vx_cwVW nA hts hT (by rw [hcw']) rfl rfl ⟨hyC, hnm⟩ (groom ⟨hR.1, hR.2.1⟩ hd hn40)) ⟨gPc_blind _ _ _, va_recv hKK.1 hP hc1 he, fun U hU hW => ⟨rfl, hKK.moved hW, by rw [hU]; exact hH⟩⟩ rfl hnA hl.1 hst (lv_room hcat) hdg ⟨by rw [hR.2.2.1]; omega, by rw [hR.2.2.2]; omega⟩⟩
theorem g_callT {own : String} {idx nA d' mc ms : Nat} {μ' : gMd} {As rest : List Value} {Q' : gO → gS → Prop} (hs : gST own idx μ' nA) (ho : md_o μ = own) (hm : CT E μ' d' mc ms As σ Q') (hnx : ∀ En σ', ¬ Q' (.inr En) σ') (hst : st = As.reverse ++ rest) (hnA : As.length = nA) (hcat : (rest.map fun v => v.category).sum ≤ 8) (hd : d' + 1 ≤ d) (hk : mc ≤ k) (hn : ms ≤ n) (hdg : decode (md_c μ) pc = .ok (.invokestatic idx, 3))
    (kk : ∀ (v : Option Value) (σ' : gS), Q' (.inl v) σ' → gG E μ d Q (k - mc) (n - ms) σ' (pc + 3) lv (v.toList ++ rest)) : gG E μ d Q k n σ pc lv st := by
  refine g_runm hk hn (fun mcT msT p l e R s m args below meth c Z cx H locs cells slots ls hH hc hss hl => ?_) kk
  obtain ⟨hx, hb, hml, hown, hts, hKK, hR, hB, hl0, -⟩ := cx
  obtain ⟨hh, hw, hcw, hnm, hn40⟩ := hs
  have hT : GoodIn wA (va_wsS own idx (md_y μ') (gcw μ' :: wA)) := good_cat hw hcw
  have hcc : ∃ q hs, md_h μ' = q :: hs := by
    cases h : md_h μ' with
    | nil => exact absurd h hh
    | cons q hs => exact ⟨q, hs, rfl⟩
  obtain ⟨q, hs, hq⟩ := hcc
  have hcw' : gcw μ' = .codeWith (md_y μ') (md_c μ') (md_n μ') (md_r μ') (q :: hs) := by
    unfold gcw
    rw [hq]
  exact ⟨_, vx_runSW (g := F0 m pc ls st) (nL := md_n μ) ⟨hx, hb, hml, by rw [← ho]; exact hown, hts⟩ (hm.met hnx l hl0) (vx_cwSW nA hts hT (by rw [hcw']) rfl rfl hnm (groom ⟨hR.1, hR.2.1⟩ hd hn40)) ⟨gPc_blind _ _ _, fun U hU hW => ⟨rfl, hKK.moved hW, by rw [hU]; exact hH⟩⟩ rfl hnA hl.1 hst (lv_room hcat) hdg ⟨by rw [hR.2.2.1]; omega, by rw [hR.2.2.2]; omega⟩⟩
theorem g_callI {own : String} {idx j nA d' mc ms : Nat} {μ' : gMd} {As rest : List Value} {Q' : gO → gS → Prop} (hs : gSI own idx μ' nA) (ho : md_o μ = own) (hr0 : md_r μ' = none) (hm : CT E μ' d' mc ms (.ref (gX E + j) :: As) σ Q') (hnx : ∀ En σ', ¬ Q' (.inr En) σ') (hst : st = As.reverse ++ .ref (gX E + j) :: rest) (hnA : As.length = nA) (hcat : (rest.map fun v => v.category).sum ≤ 8) (hd : d' + 1 ≤ d) (hk : mc ≤ k) (hn : ms ≤ n) (hdg : decode (md_c μ) pc = .ok (.invokespecial idx, 3))
    (kk : ∀ (v : Option Value) (σ' : gS), Q' (.inl v) σ' → gG E μ d Q (k - mc) (n - ms) σ' (pc + 3) lv (v.toList ++ rest)) : gG E μ d Q k n σ pc lv st := by
  refine g_runm hk hn (fun mcT msT p l e R s m args below meth c Z cx H locs cells slots ls hH hc hss hl => ?_) kk
  obtain ⟨hx, hb, hml, hown, hts, hKK, hR, hB, hl0, -⟩ := cx
  obtain ⟨hh, hlk, hin, hini, hcw, hy1, hnm, hn40⟩ := hs
  exact ⟨_, va_runI (g := F0 m pc ls st) (nL := md_n μ) ⟨hx, hb, hml, by rw [← ho]; exact hown, hts⟩ (hm.met hnx l hl0) (cwI nA hts (good_one hcw) (by rw [gcw_plain hh, hr0]) rfl rfl (hts _ hini) (hts _ hlk) (hts _ hin) hy1 hnm (groom ⟨hR.1, hR.2.1⟩ hd hn40)) ⟨gPc_blind _ _ _, fun U hU hW => ⟨rfl, hKK.moved hW, by rw [hU]; exact hH⟩⟩ rfl hnA hl.1 hst (lv_room hcat) hdg ⟨by rw [hR.2.2.1]; omega, by rw [hR.2.2.2]; omega⟩⟩
theorem g_callJ {own : String} {idx j nA d' mc ms : Nat} {μ' : gMd} {As rest : List Value} {Q' : gO → gS → Prop} (hs : gSJ own idx μ' nA) (ho : md_o μ = own) (hr0 : md_r μ' = none) (hm : CT E μ' d' mc ms (.ref (gX E + j) :: As) σ Q') (hnx : ∀ En σ', ¬ Q' (.inr En) σ') (hst : st = As.reverse ++ .ref (gX E + j) :: rest) (hnA : As.length = nA) (hcat : (rest.map fun v => v.category).sum ≤ 8) (hd : d' + 1 ≤ d) (hk : mc ≤ k) (hn : ms ≤ n) (hdg : decode (md_c μ) pc = .ok (.invokespecial idx, 3))
    (kk : ∀ (v : Option Value) (σ' : gS), Q' (.inl v) σ' → gG E μ d Q (k - mc) (n - ms) σ' (pc + 3) lv (v.toList ++ rest)) : gG E μ d Q k n σ pc lv st := by
  refine g_runm hk hn (fun mcT msT p l e R s m args below meth c Z cx H locs cells slots ls hH hc hss hl => ?_) kk
  obtain ⟨hx, hb, hml, hown, hts, hKK, hR, hB, hl0, -⟩ := cx
  obtain ⟨host, hh, hlk, hin, hini, hcw, hy1, hnm, hn40⟩ := hs
  exact ⟨_, va_runIN (g := F0 m pc ls st) (nL := md_n μ) ⟨hx, hb, hml, by rw [← ho]; exact hown, hts⟩ (hm.met hnx l hl0) ⟨va_cnB nA hts (good_one hcw) (by rw [gcw_plain hh, hr0]) rfl rfl (hKK.2.2.2.2.1 _ hlk) (hts _ hini) hnm (groom ⟨hR.1, hR.2.1⟩ hd hn40), hy1, hts _ hin⟩ ⟨gPc_blind _ _ _, fun U hU hW => ⟨rfl, hKK.moved hW, by rw [hU]; exact hH⟩⟩ rfl hnA hl.1 hst (lv_room hcat) hdg ⟨by rw [hR.2.2.1]; omega, by rw [hR.2.2.2]; omega⟩⟩
end GCALL2
/-! throw new NoSuchElementException("..") : its constructor hands the text on by an index of its own -/
def nsN : String := "java/util/NoSuchElementException"
def nsR : String := "java/lang/RuntimeException"
def ns6 : ByteArray := ⟨#[0x2a, 0x2b, 0xb7, 0x00, 0x0d, 0xb1]⟩
theorem ns6_0 : decode ns6 0 = .ok (.aload_n 0, 1) := by decide +kernel
theorem ns6_1 : decode ns6 1 = .ok (.aload_n 1, 1) := by decide +kernel
theorem ns6_2 : decode ns6 2 = .ok (.invokespecial 13, 3) := by decide +kernel
theorem ns6_5 : decode ns6 5 = .ok (.return_, 1) := by decide +kernel
def nsK : List Cond := Bundle.throwableAtoms ++ Bundle.throwableSAtoms ++ (Bundle.passSAtoms nsN nsR 13 ns6 ++ Bundle.chainSAtoms nsR ["java/lang/Exception"]) ++ [.instantiable nsN 6, .castable nsN nsN, .selects nsN Bundle.tFill0 Bundle.tFill0, .selects nsN Bundle.tFill Bundle.tFill, .lays nsN Bundle.tN "cause" "Ljava/lang/Throwable;", .lays nsN Bundle.tN "stackTrace" Bundle.steD, .lays nsN Bundle.tN "suppressedExceptions" Bundle.listD, .lays nsN Bundle.tN "detailMessage" "Ljava/lang/String;", .isRef (.static Bundle.tN "UNASSIGNED_STACK" Bundle.steD), .isRef (.static Bundle.tN "SUPPRESSED_SENTINEL" Bundle.listD), .fieldLink Bundle.tN 198 Bundle.tN "backtrace" "Ljava/lang/Object;", .lays Bundle.tN Bundle.tN "backtrace" "Ljava/lang/Object;", .lays nsN Bundle.tN "backtrace" "Ljava/lang/Object;"]
def nsL (own : String) (ic : Nat) : List Cond := Cond.methodLink own ic (Bundle.initS nsN) :: nsK
section NSE1
variable {p : Program} {l : Launch} {e : Env} {R : Room} {s : State} {m₀ : MethodId} {args : Array Value} {below : List Frame} {meth : Method} {c : Code} {W : State} {locs : List Loc} {cells slots : Nat}
set_option maxHeartbeats 4000000 in
theorem ns_ctor (X : Stand p l e R s m₀ args below meth c W locs cells slots) (hexec : p.tables.exec = Jvm.exec) (htr : e.platform.stackTraces = false) {own : String} {ic : Nat}
    (hown : s.vm.findClass own = some m₀.cls) (h : ∀ a ∈ nsL own ic, a.before args s = true)
    (hlocs : ∀ x ∈ locs, ∀ cell, s.heap[x.base]? = some cell → cell.vm.isStatics = false)
    {a : Addr} {cX : ClassId} {kX : Class} (hfoundX : s.vm.findClass nsN = some cX) (hkX : s.vm.classes[cX]? = some kX) (hcell : W.heap[a]? = some (freshCell cX kX)) (hnew : s.heap.size ≤ a)
    {msg : Value} (hmsg : msg.isRef = true)
    {g : JFrame} (hg : g.method = m₀) (hsize : g.locals.size = c.maxLocals) (hlocked : g.locked = none) (hentered : g.entered = []) {rest : List Value} (hstack : g.stack = msg :: .ref a :: .ref a :: rest)
    (hd6 : decode c.code g.pc = .ok (.invokespecial ic, 3)) (hd9 : decode c.code (g.pc + 3) = .ok (.athrow, 1)) (hout : ∀ x ∈ c.exceptionTable.toList, covers x (g.pc + 3) = false)
    (hRframes : 5 < R.frames) (hRlocals : 2 * g.monitorRoom + ((Value.ref a :: rest).map fun v => v.category).sum + 81 ≤ R.locals) (hlocks : meth.locks = false) :
    ∃ U : State, Steps p.tables e below (W.setTop g) U ∧ U.status = .running ∧ Ended U below (.threw a) ∧ s.WarmedH U.vm ∧ s.sameButNew ({ U with vm := s.vm } : State) locs cells slots ∧
      ∃ ce, U.heap[a]? = some ce ∧ s.vm.findClass nsN = some ce.cls ∧ ce.vm = .none := by
  have howns : e.platform.frameOwnsMonitors = true := by rw [X.admits.platform]
  have hfin : e.platform.finalization = false := by rw [X.admits.platform]
  have hpl : e.platform.magicAccessors = ({} : Platform).magicAccessors := by rw [X.admits.platform]
  have a' : ∀ x, x ∈ nsL own ic → x.holds args s none s [] = true := fun x hx => h x hx
  obtain ⟨T, Z0, L, -, Y⟩ := ThrowableC.of_atoms (args := args) howns hfin hpl (fun x hx => h x (by simp [nsL, nsK, hx]))
  obtain ⟨Z, M, LZ, LM, hnZ⟩ := Init0T.ofS_atoms (args := args) hpl L Y (fun x hx => h x (by simp [nsL, nsK, hx]))
  obtain ⟨P1, L1, hP1m, hP1s⟩ := PassC.ofS_atoms (args := args) (s := s) hpl (X := nsN) (Y := nsR) (by decide +kernel) (by decide +kernel) ns6_0 ns6_1 ns6_2 ns6_5 (fun x hx => h x (by simp [nsL, nsK, hx]))
  obtain ⟨P2, Ps, hlen, L2, hL, hP2m, hsup, hpass⟩ := Bundle.chainS (args := args) hpl hnZ ["java/lang/Exception"] nsR (by decide +kernel) (by decide +kernel) (fun x hx => h x (by simp [nsL, nsK, hx]))
  have hl1 : Ps.length = 1 := hlen
  have hlink1 : P1.sup = P2.m := Option.some.inj (hP1s.symm.trans hP2m)
  have hfound : s.vm.findClass nsN = some P1.m.cls := findClass_of_methodNamed hP1m
  cases Option.some.inj (hfoundX.symm.trans hfound)
  obtain ⟨c1, kX', hc1, hk, hord, -, -, hn6⟩ := Cond.instantiable_spec (a' (.instantiable nsN 6) (by simp [nsL, nsK]))
  cases Option.some.inj (hc1.symm.trans hfound)
  cases Option.some.inj (hkX.symm.trans hk)
  have hsel : ∀ (x : MethodName) (q : MethodId), Cond.selects nsN x x ∈ nsL own ic → s.methodNamed? x = some q → s.methodFound? x.cls x.name x.desc = some q → selectMethod e.platform s.vm P1.m.cls q = .method q := fun x q hm hn hf => by
    obtain ⟨c2, r2, m2, q1, q2, q3, q4, -⟩ := Cond.selects_spec (a' _ hm)
    cases Option.some.inj (q1.symm.trans hfound)
    cases Option.some.inj (q2.symm.trans hf)
    cases Option.some.inj (q3.symm.trans hn)
    rw [Launch.admits_selectMethod X.admits]
    exact q4
  have hsel0 : selectMethod e.platform s.vm P1.m.cls T.fill0 = .method T.fill0 := hsel Bundle.tFill0 T.fill0 (by simp [nsL, nsK]) Y.fill0 (State.methodFound?_of_named Y.fill0 (by decide))
  have hselF : selectMethod e.platform s.vm P1.m.cls T.fill = .method T.fill := hsel Bundle.tFill T.fill (by simp [nsL, nsK]) Y.fill (State.methodFound?_of_named Y.fill (by decide))
  obtain ⟨cellS0, hcS0, hiss⟩ := Y.statics
  obtain ⟨u0, hu0⟩ := Cond.staticRefV Y.unassigned L.unassignedStatic L.statics hcS0 hiss (a' (.isRef (.static Bundle.tN "UNASSIGNED_STACK" Bundle.steD)) (by simp [nsL, nsK]))
  obtain ⟨sen, hsen⟩ := Cond.staticRefV Y.sentinel L.sentinelStatic L.statics hcS0 hiss (a' (.isRef (.static Bundle.tN "SUPPRESSED_SENTINEL" Bundle.listD)) (by simp [nsL, nsK]))
  obtain ⟨ci198, i198, fB, hk198, hg198, ha198, hsB, -, hnB, htB, hffB⟩ := Cond.ownField (t := .object "java/lang/Object") Y.found L.cls (by decide +kernel) (a' (.fieldLink Bundle.tN 198 Bundle.tN "backtrace" "Ljava/lang/Object;") (by simp [nsL, nsK])) (a' (.lays Bundle.tN Bundle.tN "backtrace" "Ljava/lang/Object;") (by simp [nsL, nsK])) e.platform hpl
  obtain ⟨cellS, hcS', heS, -, hkeep⟩ := X.same.2.2.2.2.2 T.aS cellS0 hcS0
  have hcellS : W.heap[T.aS]? = some cellS := hcS'
  have hout' : ∀ i, (⟨T.aS, i⟩ : Loc) ∉ locs := fun i hmem => by
    have := hlocs _ hmem cellS0 hcS0
    rw [hiss] at this
    cases this
  have hknownS : cellS.vm ≠ .unknown := by
    rw [heS]
    intro hu
    rw [show cellS0.vm = .unknown from hu] at hiss
    cases hiss
  have hneS : T.aS ≠ a := Nat.ne_of_lt (Nat.lt_of_lt_of_le (Array.getElem?_eq_some_iff.mp hcS0).1 hnew)
  obtain ⟨iM, hffM⟩ := Y.msg
  obtain ⟨tyC, dC, hdC, hdnC⟩ := Cond.laysAt hfound hk Y.cause (a' (.lays nsN Bundle.tN "cause" "Ljava/lang/Throwable;") (by simp [nsL, nsK]))
  obtain ⟨tyS, dS, hdS, hdnS⟩ := Cond.laysAt hfound hk Y.stack (a' (.lays nsN Bundle.tN "stackTrace" Bundle.steD) (by simp [nsL, nsK]))
  obtain ⟨tyP, dP, hdP, hdnP⟩ := Cond.laysAt hfound hk Y.supp (a' (.lays nsN Bundle.tN "suppressedExceptions" Bundle.listD) (by simp [nsL, nsK]))
  obtain ⟨tyM, dM, hdM, hdnM⟩ := Cond.laysAt hfound hk hffM (a' (.lays nsN Bundle.tN "detailMessage" "Ljava/lang/String;") (by simp [nsL, nsK]))
  obtain ⟨tyB, dB, hdB, hdnB⟩ := Cond.laysAt hfound hk hffB (a' (.lays nsN Bundle.tN "backtrace" "Ljava/lang/Object;") (by simp [nsL, nsK]))
  have bC := Cond.laysApart hdB hdC hdnB hdnC (by rw [hnB, Y.causeName]; decide)
  have bS := Cond.laysApart hdB hdS hdnB hdnS (by rw [hnB, Y.stackName]; decide)
  have bP := Cond.laysApart hdB hdP hdnB hdnP (by rw [hnB, Y.suppName]; decide)
  have hskip : SkipFacts T e.platform s (fun u => u) u0 ((preparedCellV T.toThrowableT (freshCell P1.m.cls kX) a u0 sen).withEntry W.cur) :=
    ⟨{ ci198 := ci198, i198 := i198, fBack := fB }, ⟨hk198, hg198, ha198, hsB⟩, by
      have := fresh_default (c := P1.m.cls) tyB
      rw [htB] at this
      simpa [preparedCellV, Cell.setSlot, Cell.withEntry, Array.getElem?_setIfInBounds, bC, bS, bP, bC.symm, bS.symm, bP.symm, defaultValue] using this, fun _ _ => rfl⟩
  obtain ⟨tm, methC, cdC, kC, vm₁, hnC, -, -, -, -, -, -, -, hW₁, st1⟩ := Steps.initColdS (tb := p.tables) (e := e) (below := below) (s := s) (U := W) X.here hexec X.warmed hpl hown (t := Bundle.initS nsN) rfl rfl (by decide +kernel)
    (a' (.methodLink own ic (Bundle.initS nsN)) (by simp [nsL, nsK])) (h (.instanceMethod (Bundle.initS nsN)) (by simp [nsL, nsK, Bundle.passSAtoms])) (bytes := ns6) (maxL := 2) (h (.code (Bundle.initS nsN) ns6 2 none) (by simp [nsL, nsK, Bundle.passSAtoms]))
    (f := g) hg (a := a) (msg := msg) (rest := .ref a :: rest) hstack hd6
  cases Option.some.inj (hnC.symm.trans hP1m)
  have X₁ := X.noted hW₁
  obtain ⟨vm₂, X₂, st2⟩ := X₁.ctorMessageOffV hexec (g := { g with stack := .ref a :: rest }) hg hsize T L Z LZ M LM (P1 :: P2 :: Ps)
    (fun P hP => by
      rcases List.mem_cons.mp hP with rfl | hP
      · exact L1
      · rcases List.mem_cons.mp hP with rfl | hP
        · exact L2
        · exact hL P hP) ⟨hlink1, hsup, hpass⟩ (u0 := u0) (sen := sen) (self := a) hmsg (cell := freshCell P1.m.cls kX) (cellS := cellS)
    hcell (fun _ => by simp) (by simp) rfl rfl hsel0 hselF hcellS hneS hknownS (by rw [hkeep _ (hout' _)]; exact hu0) (by rw [hkeep _ (hout' _)]; exact hsen)
    (Takes.of_laid hk hord tyC (by rw [Y.causeType]; rfl)) (Takes.of_laid hk hord tyS (by rw [Y.stackType]; exact fits_refV_array _ u0)) (Takes.of_laid hk hord tyP (by rw [Y.suppType]; exact fits_refV_object _ sen))
    (Takes.of_laid hk hord tyM (by rw [Y.msgType]; exact fits_refV_object _ ⟨msg, hmsg⟩)) Y.objLocals hskip htr [] hd6
    (by simp only [List.length_cons, hl1]; omega) (by simp only [List.length_cons, hl1]; exact hRlocals)
  obtain ⟨hwalk, hrun, hended, hWU, hsame⟩ := X₂.athrowLeaves hexec (g := { g with stack := .ref a :: rest, pc := g.pc + 3 }) hg hlocked hentered hout (a := a) (rest := rest) rfl hd9
  have hlt : a < ((W.setVm vm₁).setVm vm₂).heap.size := (Array.getElem?_eq_some_iff.mp hcell).1
  have hU := heapAt_setCell_self (s := (W.setVm vm₁).setVm vm₂) (plainBareV T.toThrowableT (freshCell P1.m.cls kX) a u0 sen msg) hlt
  refine ⟨_, st1 _ (fun acts => ?_), hrun, hended, hWU, hsame.weaken (fun y hy hlt' => ?_) (Nat.le_refl _) (Nat.le_refl _), _, hU, hfound, rfl⟩
  · rw [doInvoke_state]
    exact st2 _ hwalk
  · rcases List.mem_append.mp hy with h1 | h1
    · exact h1
    · exfalso
      have hb : y.base = a := by
        simp only [List.mem_cons, List.not_mem_nil, or_false] at h1
        rcases h1 with rfl | rfl | rfl | rfl | rfl <;> rfl
      rw [hb] at hlt'
      exact Nat.not_lt.mpr hnew hlt'
end NSE1
section NSE2
variable {p : Program} {l : Launch} {e : Env} {R : Room} {s : State} {m : MethodId} {args : Array Value} {below : List Frame} {meth : Method} {c : Code} {H : Heap} {locs : List Loc} {cells slots : Nat} {Q : State → Prop}
variable {mc ms : Nat} {free : Addr → Prop} {A0 A1 : Nat → Prop} {H0 : Heap} {a : Array Value} {ls : Array Slot} {st0 rest : List Value}
variable {Qc : Array Value → State → Outcome → State → Prop} {XC : String → State → State → Prop}
theorem ns_throw {cc : ByteArray} {pc : Nat} (hexec : p.tables.exec = Jvm.exec) (hb : c.code = cc) (hl : l.stackTraces = false) {own text : String} {ik is ic mc ms sa : Nat} {A : Nat → Prop}
    (hown : s.vm.findClass own = some m.cls)
    (hk : (Cond.classLink own ik nsN).before args s = true) (hini : (Cond.initialized nsN).before args s = true) (hstr : vk_R own is text sa s) (hat : ∀ w ∈ (nsL own ic).filter vx_no, w.before args s = true)
    (hgood : ∀ w ∈ Cond.classLink own ik nsN :: Cond.initialized nsN :: (nsL own ic).filter vx_no, vx_ot w = true)
    (hU : vx_Zq Bundle.tN "UNASSIGNED_STACK" Bundle.steD A s s.heap) (hN : vx_Zq Bundle.tN "SUPPRESSED_SENTINEL" Bundle.listD A s s.heap) (hS : va_S A s.heap H locs) (hsize : ls.size = c.maxLocals)
    (d0 : decode cc pc = .ok (.new ik, 3)) (d3 : decode cc (pc + 3) = .ok (.dup, 1)) (d4 : decode cc (pc + 4) = .ok (.ldc is, 2)) (d6 : decode cc (pc + 6) = .ok (.invokespecial ic, 3)) (d9 : decode cc (pc + 9) = .ok (.athrow, 1))
    (hout : ∀ x ∈ c.exceptionTable.toList, covers x (pc + 9) = false)
    (hRframes : 5 < R.frames) (hRlocals : (rest.map fun v => v.category).sum + 82 ≤ R.locals) (hRcells : cells + 1 ≤ R.cells) (hRslots : slots + 6 ≤ R.slots) (hlocks : meth.locks = false)
    (hx : ∀ t : State, s.vm.Alike t.vm → H.size ≤ t.heap.size → (∀ q : Nat, q < H.size → t.heap[q]? = H[q]?) → XC nsN s t)
    (hf : ∀ z ∈ locs, free z.base) (hc : cells + 1 ≤ mc) (hs : slots + 6 ≤ ms) :
    W p l e R s m args below meth c H locs cells slots (vx_MQ below Qc XC args s mc ms free) (F0 m pc ls rest) := by
  intro T hT X
  have htr : e.platform.stackTraces = false := (show e.platform.stackTraces = l.stackTraces by rw [X.admits.platform]).trans hl
  have Y := vx_rebase X (R' := { frames := R.frames, locals := R.locals, cells := 1, slots := 6 }) (Nat.le_refl _) (Nat.le_refl _) hRcells hRslots
  obtain ⟨s', hA⟩ : ∃ z, z = (T.setVm s.vm).setFrames (.invoking m args :: below) := ⟨_, rfl⟩
  rw [← hA] at Y
  have hvm : s'.vm = s.vm := by rw [hA]; rfl
  have hhp : s'.heap = H := by rw [hA]; exact hT
  have hW0 : s.WarmedH s'.vm := by rw [hvm]; exact State.WarmedH.refl s
  have hat' : ∀ w ∈ (nsL own ic).filter vx_no, w.before args s' = true := fun w hw => vx_ot_at hW0 hvm.symm (hgood w (List.mem_cons_of_mem _ (List.mem_cons_of_mem _ hw))) (hat w hw)
  have hk' : (Cond.classLink own ik nsN).before args s' = true := vx_ot_at hW0 hvm.symm (hgood _ List.mem_cons_self) hk
  have hini' : (Cond.initialized nsN).before args s' = true := vx_ot_at hW0 hvm.symm (hgood _ (List.mem_cons_of_mem _ List.mem_cons_self)) hini
  have hU' : vx_Zq Bundle.tN "UNASSIGNED_STACK" Bundle.steD A s' s'.heap := by rw [hhp]; exact vx_Zq.moved hW0.alike (hU.kept hS.2.1)
  have hN' : vx_Zq Bundle.tN "SUPPRESSED_SENTINEL" Bundle.listD A s' s'.heap := by rw [hhp]; exact vx_Zq.moved hW0.alike (hN.kept hS.2.1)
  have h : ∀ w ∈ nsL own ic, w.before args s' = true := vx_own hat' (vx_isRefq hU'.1) (vx_isRefq hN'.1) hU'.2.word hN'.2.word
  have hown' : s'.vm.findClass own = some m.cls := by rw [hvm]; exact hown
  have hins : (Cond.instantiable nsN 6).before args s' = true := h _ (by simp [nsL, nsK])
  obtain ⟨vm₁, cX, kX, hfX, hkX, -, -, X₁, st1⟩ := Y.newCold hexec (own := own) (C := nsN) (index := ik) (n := 6) hown' hk' hins hini'
    (g := F0 m pc ls rest) rfl (by rw [hb]; exact d0) (Nat.le_refl _) (Nat.le_refl _)
  generalize hT1 : (T.setVm vm₁).pushCell { cls := cX, slots := kX.instanceTypes.map defaultValue, vm := .none } = T1 at X₁ st1
  have hcat : (Value.ref T.heap.size).category = 1 := rfl
  have hcellA : T1.heap[T.heap.size]? = some (freshCell cX kX) := by rw [← hT1]; exact State.heap_pushCell_size _ _
  have d3' : decode c.code (pc + 3) = .ok (.dup, 1) := by rw [hb]; exact d3
  have d4' : decode c.code (pc + 4) = .ok (.ldc is, 2) := by rw [hb]; exact d4
  have hstr' : vk_R own is text sa s' := vk_R.warm hW0 hstr
  obtain ⟨U, hsteps, hrun, hend, hW, hsame, ce, hce, hO, hOv⟩ := ns_ctor X₁ hexec htr (own := own) (ic := ic) hown' h (fun x hx => nomatch hx) hfX hkX hcellA (by rw [hhp, hT]; exact Nat.le_refl _) (msg := .ref sa) rfl
    (g := { method := m, pc := pc + 6, locals := ls, stack := .ref sa :: .ref T.heap.size :: .ref T.heap.size :: rest, locked := none }) rfl hsize rfl rfl (rest := rest) rfl
    (by rw [hb]; exact d6) (by rw [hb]; exact d9) hout hRframes (by simp only [List.map_cons, List.sum_cons, hcat]; omega) hlocks
  obtain ⟨f1, f2⟩ := vx_frame hsame
  rw [hhp] at f1 f2
  have hWs : s.WarmedH U.vm := State.WarmedH.trans hW0 hW
  have hcl : s.vm.findClass nsN = some ce.cls := by
    rw [hvm] at hO
    exact hO
  have hall : s.sameButNew ({ U with vm := s.vm } : State) locs mc ms := by
    subst hA
    obtain ⟨e1, e2⟩ := hsame
    rw [State.setFrames_setFrames] at e1
    have h2 : (T.setVm s.vm).sameButNew ({ U with vm := s.vm } : State) [] (0 + 1) (0 + 6) := ⟨e1, e2⟩
    have h3 := X.same.trans h2
    rw [List.append_nil] at h3
    exact h3.mono hc hs
  refine ⟨U, ?_, .threw T.heap.size, hrun, hend, Or.inr ⟨T.heap.size, rfl, nsN, ce, locs, hx U hWs.alike f1 (fun q hq => f2 q hq (fun z hz => nomatch hz)), hce, hOv, hcl, hWs, hall, hf⟩⟩
  refine st1 _ ?_
  show Steps p.tables e below (T1.setTop { method := m, pc := pc + 3, locals := ls, stack := .ref T.heap.size :: rest, locked := none }) _
  jvm_step X₁.here [X₁.here.top, hexec, d3', Value.category]
  exact X₁.ldcString hexec (own := own) (text := text) (index := is) (a := sa) hown' hstr'.1 hstr'.2
    (g := { method := m, pc := pc + 4, locals := ls, stack := .ref T.heap.size :: .ref T.heap.size :: rest, locked := none }) rfl d4' _ hsteps
theorem ns_throwW {cc : ByteArray} {pc : Nat} (hexec : p.tables.exec = Jvm.exec) (hb : c.code = cc) (hl : l.stackTraces = false) {own text : String} {ik is ic mc ms sa : Nat} {A : Nat → Prop}
    (hown : s.vm.findClass own = some m.cls)
    (hk : (Cond.classLink own ik nsN).before args s = true) (hini : (Cond.initialized nsN).before args s = true) (hstr : vk_R own is text sa s) (hat : ∀ w ∈ (nsL own ic).filter vx_no, w.before args s = true)
    (hgood : ∀ w ∈ Cond.classLink own ik nsN :: Cond.initialized nsN :: (nsL own ic).filter vx_no, vx_ot w = true)
    (hU : vx_Zq Bundle.tN "UNASSIGNED_STACK" Bundle.steD A s s.heap) (hN : vx_Zq Bundle.tN "SUPPRESSED_SENTINEL" Bundle.listD A s s.heap) (hS : va_S A s.heap H locs) (hsize : ls.size = c.maxLocals)
    (d0 : decode cc pc = .ok (.new ik, 3)) (d3 : decode cc (pc + 3) = .ok (.dup, 1)) (d4 : decode cc (pc + 4) = .ok (.ldc_w is, 3)) (d6 : decode cc (pc + 7) = .ok (.invokespecial ic, 3)) (d9 : decode cc (pc + 10) = .ok (.athrow, 1))
    (hout : ∀ x ∈ c.exceptionTable.toList, covers x (pc + 10) = false)
    (hRframes : 5 < R.frames) (hRlocals : (rest.map fun v => v.category).sum + 82 ≤ R.locals) (hRcells : cells + 1 ≤ R.cells) (hRslots : slots + 6 ≤ R.slots) (hlocks : meth.locks = false)
    (hx : ∀ t : State, s.vm.Alike t.vm → H.size ≤ t.heap.size → (∀ q : Nat, q < H.size → t.heap[q]? = H[q]?) → XC nsN s t)
    (hf : ∀ z ∈ locs, free z.base) (hc : cells + 1 ≤ mc) (hs : slots + 6 ≤ ms) :
    W p l e R s m args below meth c H locs cells slots (vx_MQ below Qc XC args s mc ms free) (F0 m pc ls rest) := by
  intro T hT X
  have htr : e.platform.stackTraces = false := (show e.platform.stackTraces = l.stackTraces by rw [X.admits.platform]).trans hl
  have Y := vx_rebase X (R' := { frames := R.frames, locals := R.locals, cells := 1, slots := 6 }) (Nat.le_refl _) (Nat.le_refl _) hRcells hRslots
  obtain ⟨s', hA⟩ : ∃ z, z = (T.setVm s.vm).setFrames (.invoking m args :: below) := ⟨_, rfl⟩
  rw [← hA] at Y
  have hvm : s'.vm = s.vm := by rw [hA]; rfl
  have hhp : s'.heap = H := by rw [hA]; exact hT
  have hW0 : s.WarmedH s'.vm := by rw [hvm]; exact State.WarmedH.refl s
  have hat' : ∀ w ∈ (nsL own ic).filter vx_no, w.before args s' = true := fun w hw => vx_ot_at hW0 hvm.symm (hgood w (List.mem_cons_of_mem _ (List.mem_cons_of_mem _ hw))) (hat w hw)
  have hk' : (Cond.classLink own ik nsN).before args s' = true := vx_ot_at hW0 hvm.symm (hgood _ List.mem_cons_self) hk
  have hini' : (Cond.initialized nsN).before args s' = true := vx_ot_at hW0 hvm.symm (hgood _ (List.mem_cons_of_mem _ List.mem_cons_self)) hini
  have hU' : vx_Zq Bundle.tN "UNASSIGNED_STACK" Bundle.steD A s' s'.heap := by rw [hhp]; exact vx_Zq.moved hW0.alike (hU.kept hS.2.1)
  have hN' : vx_Zq Bundle.tN "SUPPRESSED_SENTINEL" Bundle.listD A s' s'.heap := by rw [hhp]; exact vx_Zq.moved hW0.alike (hN.kept hS.2.1)
  have h : ∀ w ∈ nsL own ic, w.before args s' = true := vx_own hat' (vx_isRefq hU'.1) (vx_isRefq hN'.1) hU'.2.word hN'.2.word
  have hown' : s'.vm.findClass own = some m.cls := by rw [hvm]; exact hown
  have hins : (Cond.instantiable nsN 6).before args s' = true := h _ (by simp [nsL, nsK])
  obtain ⟨vm₁, cX, kX, hfX, hkX, -, -, X₁, st1⟩ := Y.newCold hexec (own := own) (C := nsN) (index := ik) (n := 6) hown' hk' hins hini'
    (g := F0 m pc ls rest) rfl (by rw [hb]; exact d0) (Nat.le_refl _) (Nat.le_refl _)
  generalize hT1 : (T.setVm vm₁).pushCell { cls := cX, slots := kX.instanceTypes.map defaultValue, vm := .none } = T1 at X₁ st1
  have hcat : (Value.ref T.heap.size).category = 1 := rfl
  have hcellA : T1.heap[T.heap.size]? = some (freshCell cX kX) := by rw [← hT1]; exact State.heap_pushCell_size _ _
  have d3' : decode c.code (pc + 3) = .ok (.dup, 1) := by rw [hb]; exact d3
  have d4' : decode c.code (pc + 4) = .ok (.ldc_w is, 3) := by rw [hb]; exact d4
  have hstr' : vk_R own is text sa s' := vk_R.warm hW0 hstr
  obtain ⟨U, hsteps, hrun, hend, hW, hsame, ce, hce, hO, hOv⟩ := ns_ctor X₁ hexec htr (own := own) (ic := ic) hown' h (fun x hx => nomatch hx) hfX hkX hcellA (by rw [hhp, hT]; exact Nat.le_refl _) (msg := .ref sa) rfl
    (g := { method := m, pc := pc + 7, locals := ls, stack := .ref sa :: .ref T.heap.size :: .ref T.heap.size :: rest, locked := none }) rfl hsize rfl rfl (rest := rest) rfl
    (by rw [hb]; exact d6) (by rw [hb]; exact d9) hout hRframes (by simp only [List.map_cons, List.sum_cons, hcat]; omega) hlocks
  obtain ⟨f1, f2⟩ := vx_frame hsame
  rw [hhp] at f1 f2
  have hWs : s.WarmedH U.vm := State.WarmedH.trans hW0 hW
  have hcl : s.vm.findClass nsN = some ce.cls := by
    rw [hvm] at hO
    exact hO
  have hall : s.sameButNew ({ U with vm := s.vm } : State) locs mc ms := by
    subst hA
    obtain ⟨e1, e2⟩ := hsame
    rw [State.setFrames_setFrames] at e1
    have h2 : (T.setVm s.vm).sameButNew ({ U with vm := s.vm } : State) [] (0 + 1) (0 + 6) := ⟨e1, e2⟩
    have h3 := X.same.trans h2
    rw [List.append_nil] at h3
    exact h3.mono hc hs
  refine ⟨U, ?_, .threw T.heap.size, hrun, hend, Or.inr ⟨T.heap.size, rfl, nsN, ce, locs, hx U hWs.alike f1 (fun q hq => f2 q hq (fun z hz => nomatch hz)), hce, hOv, hcl, hWs, hall, hf⟩⟩
  refine st1 _ ?_
  show Steps p.tables e below (T1.setTop { method := m, pc := pc + 3, locals := ls, stack := .ref T.heap.size :: rest, locked := none }) _
  jvm_step X₁.here [X₁.here.top, hexec, d3', Value.category]
  exact X₁.ldcStringW hexec (own := own) (text := text) (index := is) (a := sa) hown' hstr'.1 hstr'.2
    (g := { method := m, pc := pc + 4, locals := ls, stack := .ref T.heap.size :: .ref T.heap.size :: rest, locked := none }) rfl d4' _ hsteps
end NSE2
theorem ns_rest : ∀ w ∈ nsK.filter vx_no, w ∈ wA ∨ w ∈ wN := gth_of (by decide +kernel)
theorem ns_words {own : String} {ic : Nat} (h : Cond.methodLink own ic ⟨"java/util/NoSuchElementException", "<init>", "(Ljava/lang/String;)V"⟩ ∈ wA) : ∀ w ∈ (nsL own ic).filter vx_no, w ∈ wA ∨ w ∈ wN := by
  intro w hw
  obtain ⟨h1, h2⟩ := List.mem_filter.mp hw
  rcases List.mem_cons.mp h1 with h1 | h1
  · rw [h1]
    exact Or.inl h
  · exact ns_rest w (List.mem_filter.mpr ⟨h1, h2⟩)
section NSE3
variable {E : gE} {μ : gMd} {d : Nat} {Q : gO → gS → Prop} {k n : Nat} {σ : gS} {pc : Nat} {lv : List (Nat × Value)} {st : List Value}
theorem g_throwN {own : String} {ik is ic : Nat} (hl0 : md_l μ = false) (hs : gTn own ik is ic) (ho : md_o μ = own) (hh : md_h μ = []) (hn : gn σ = 572) (hd : 7 ≤ d) (hk : 1 ≤ k) (hn6 : 6 ≤ n) (hst : (st.map fun v => v.category).sum ≤ 8)
    (d0 : decode (md_c μ) pc = .ok (.new ik, 3)) (d3 : decode (md_c μ) (pc + 3) = .ok (.dup, 1)) (d4 : decode (md_c μ) (pc + 4) = .ok (.ldc is, 2)) (d6 : decode (md_c μ) (pc + 6) = .ok (.invokespecial ic, 3)) (d9 : decode (md_c μ) (pc + 9) = .ok (.athrow, 1)) (hq : Q (.inr "java/util/NoSuchElementException") σ) : gG E μ d Q k n σ pc lv st := by
  intro mcT msT p l e R s m args below meth c Z cx H locs cells slots ls hH hS hc hss hl
  obtain ⟨hx, hb, hml, hown, hts, hKK, hR, hB, hl1, hlocks, htab, hZ, -⟩ := cx
  obtain ⟨⟨text, htx⟩, hlk, hini, hmk⟩ := hs
  obtain ⟨sa, hsa⟩ := hKK.2.2.2.1 _ htx
  have hat := ns_words hmk
  have hw : ∀ w ∈ (nsL own ic).filter vx_no, w.before args s = true := fun w hw => (hat w hw).elim (hts w) (fun h => va_Nw.use (by have := (List.mem_filter.mp h).2; cases w <;> first | rfl | exact absurd this (by simp [gNest])) (hKK.2.2.2.2.1 w h))
  rw [hZ hl0]
  have hX := hKK.2.2.2.2.2.2.1
  refine ns_throw (own := own) (text := text) (A := gA E) hx hb hl1 (by rw [← ho]; exact hown) (hts _ hlk) (hts _ hini) hsa hw (fun w hw => ?_) (gZq hKK.2.1 hB hX) (gZq hKK.2.2.1 hB hX) hS (by rw [hl.1, hml]) d0 d3 d4 d6 d9 (gtab (pc := pc + 9) htab (fun z hz => by rw [hh] at hz; exact absurd hz List.not_mem_nil)) (by omega) (by omega) (by rw [hR.2.2.1]; omega) (by rw [hR.2.2.2]; omega) hlocks (fun t hA hz hkeep => ?_) hS.2.2 (by omega) (by omega)
  · rcases List.mem_cons.mp hw with rfl | hw
    · exact vx_ot_wA (Or.inl hlk)
    · rcases List.mem_cons.mp hw with rfl | hw
      · exact vx_ot_wA (Or.inl hini)
      · exact vx_ot_wA (hat w hw)
  · obtain ⟨hBB, h572, hsz, τ, ht1, ht2, hP, hD⟩ := hH
    refine ⟨σ, hq, ⟨⟨Nat.le_trans hBB.1 hz, fun q h => by rw [hkeep q (Nat.lt_of_lt_of_le h hBB.1)]; exact hBB.2 q h⟩, h572, fun h => absurd h (by rw [hn]; decide), τ, ht1, ht2, hP.kept (fun k9 q h => hkeep _ (vx_lt hP h)), hD⟩, Nat.le_trans hS.1 hz, fun q h1 h2 => ?_⟩
    rw [hkeep q (Nat.lt_of_lt_of_le h1 hS.1)]
    exact hS.2.1 q h1 h2
theorem g_throwNW {own : String} {ik is ic : Nat} (hl0 : md_l μ = false) (hs : gTn own ik is ic) (ho : md_o μ = own) (hh : md_h μ = []) (hn : gn σ = 572) (hd : 7 ≤ d) (hk : 1 ≤ k) (hn6 : 6 ≤ n) (hst : (st.map fun v => v.category).sum ≤ 8)
    (d0 : decode (md_c μ) pc = .ok (.new ik, 3)) (d3 : decode (md_c μ) (pc + 3) = .ok (.dup, 1)) (d4 : decode (md_c μ) (pc + 4) = .ok (.ldc_w is, 3)) (d7 : decode (md_c μ) (pc + 7) = .ok (.invokespecial ic, 3)) (d10 : decode (md_c μ) (pc + 10) = .ok (.athrow, 1)) (hq : Q (.inr "java/util/NoSuchElementException") σ) : gG E μ d Q k n σ pc lv st := by
  intro mcT msT p l e R s m args below meth c Z cx H locs cells slots ls hH hS hc hss hl
  obtain ⟨hx, hb, hml, hown, hts, hKK, hR, hB, hl1, hlocks, htab, hZ, -⟩ := cx
  obtain ⟨⟨text, htx⟩, hlk, hini, hmk⟩ := hs
  obtain ⟨sa, hsa⟩ := hKK.2.2.2.1 _ htx
  have hat := ns_words hmk
  have hw : ∀ w ∈ (nsL own ic).filter vx_no, w.before args s = true := fun w hw => (hat w hw).elim (hts w) (fun h => va_Nw.use (by have := (List.mem_filter.mp h).2; cases w <;> first | rfl | exact absurd this (by simp [gNest])) (hKK.2.2.2.2.1 w h))
  rw [hZ hl0]
  have hX := hKK.2.2.2.2.2.2.1
  refine ns_throwW (own := own) (text := text) (A := gA E) hx hb hl1 (by rw [← ho]; exact hown) (hts _ hlk) (hts _ hini) hsa hw (fun w hw => ?_) (gZq hKK.2.1 hB hX) (gZq hKK.2.2.1 hB hX) hS (by rw [hl.1, hml]) d0 d3 d4 d7 d10 (gtab (pc := pc + 10) htab (fun z hz => by rw [hh] at hz; exact absurd hz List.not_mem_nil)) (by omega) (by omega) (by rw [hR.2.2.1]; omega) (by rw [hR.2.2.2]; omega) hlocks (fun t hA hz hkeep => ?_) hS.2.2 (by omega) (by omega)
  · rcases List.mem_cons.mp hw with rfl | hw
    · exact vx_ot_wA (Or.inl hlk)
    · rcases List.mem_cons.mp hw with rfl | hw
      · exact vx_ot_wA (Or.inl hini)
      · exact vx_ot_wA (hat w hw)
  · obtain ⟨hBB, h572, hsz, τ, ht1, ht2, hP, hD⟩ := hH
    refine ⟨σ, hq, ⟨⟨Nat.le_trans hBB.1 hz, fun q h => by rw [hkeep q (Nat.lt_of_lt_of_le h hBB.1)]; exact hBB.2 q h⟩, h572, fun h => absurd h (by rw [hn]; decide), τ, ht1, ht2, hP.kept (fun k9 q h => hkeep _ (vx_lt hP h)), hD⟩, Nat.le_trans hS.1 hz, fun q h1 h2 => ?_⟩
    rw [hkeep q (Nat.lt_of_lt_of_le h1 hS.1)]
    exact hS.2.1 q h1 h2
end NSE3
