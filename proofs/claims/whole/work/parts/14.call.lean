/-! the flat machine: calls -/
section GCALL0
variable {p : Program} {l : Launch} {e : Env} {R : Room} {s : State} {m : MethodId} {args : Array Value} {below : List Frame} {meth : Method} {c : Code} {H : Heap} {locs : List Loc} {cells slots : Nat}
/-- a nest mate's static method, returning or throwing: va_runSN with one case more -/
theorem vx_runSN {y : MethodName} {bytes cc : ByteArray} {maxL nL mc ms n index : Nat} {ret : Option FieldType} {ws : List Cond} {rm : Room} {Pc : Array Value → State → Prop} {Qc : Array Value → State → Outcome → State → Prop} {XC : String → State → State → Prop} {free : Addr → Prop} {Ts : List Cond} {own host : String} {As rest : List Value} {g : JFrame}
    (S : CallFix p m c cc nL s args Ts own) (hM : vx_Met l y ws rm Pc Qc XC mc ms free) (cw : va_CN R s args own index y host bytes maxL ret ws rm mc ms n ∧ (Cond.static y).before args s = true ∧ True) (hp : PreS s H Pc As)
    (hg : g.method = m) (hn : As.length = n) (hsize : g.locals.size = nL) (hstack : g.stack = As.reverse ++ rest) (hW : 2 * g.monitorRoom + (rest.map fun v => v.category).sum ≤ 8) (hdg : decode cc g.pc = .ok (.invokestatic index, 3)) (hf : cells + mc ≤ R.cells ∧ slots + ms ≤ R.slots) :
    vx_Run p l e R s m args below meth c H locs cells slots mc ms g rest (Qc As.toArray) XC free := by
  obtain ⟨⟨⟨hrc, hrs, hfr, hlo, hws, hcw⟩, hcode, hini, hy, hlen, hlink⟩, hstat, -⟩ := cw
  have hK : vx_Back l R p e below s args y 3 8 (PreOf R mc ms Pc) (PostOf Qc mc ms free) (vx_Post XC mc ms free) := vx_back (bytes := bytes) (maxL := maxL) (ret := ret) hM hp.1 hrc hrs hfr hlo hws hcw (fun a' U hW => word_at hW (Or.inl (by first | rfl | simp [Cond.onTables, Cond.keeps, Cond.steady])) hini)
  obtain ⟨hx, hb, hml, ho, -⟩ := S
  intro T hT X
  obtain ⟨mk, hnamed⟩ := Cond.code_named hcode
  obtain ⟨methM, cM, hmethM, -, -, -, -, -, -, hsigM⟩ := Cond.code_spec hnamed hcode
  have hstatic : methM.isStatic = true := Cond.static_spec hnamed hmethM hstat
  obtain ⟨kP, hkP, -⟩ := className_of_methodNamed hnamed
  have hinitP : kP.init = .initialized := Cond.initialized_spec (findClass_of_methodNamed hnamed) hkP hini
  have hdg' : decode c.code g.pc = .ok (.invokestatic index, 3) := by rw [hb]; exact hdg
  obtain ⟨vm₁, X₁, hstep₁⟩ := X.invokestaticNest hx ho hlink hnamed hmethM hstatic hkP hinitP hy (g := g) hg (argsL := As) (rest := rest) (hn.trans (hlen _ hsigM)) hstack hdg'
  rcases hK m meth c ⟨T.setVm vm₁, locs, cells, slots⟩ { g with stack := rest } (.invokestatic index) mk As.toArray X₁ hg (hsize.trans hml.symm) hdg' hW (X₁.named hnamed) ⟨hf.1, hf.2, hp.2 (T.setVm vm₁) hT X₁.warmed⟩ with ⟨v, ⟨U', l2, c2, s2⟩, X', ⟨g', mk', t, L, e1, e2, hq, h1, hL, h2, h3⟩, hsteps⟩ | ⟨q, ⟨U', l2, c2, s2⟩, X', ⟨g', mk', t, L, E, ce, e1, e2, hq, hce, hcv, hcl, h1, hL, h2, h3⟩, hsteps⟩
  · dsimp only [Pt.U, Pt.locs, Pt.cells, Pt.slots] at X' e1 e2 h1 h2 h3 hsteps
    subst h1; subst h2; subst h3
    exact Or.inl ⟨v, (T.setVm vm₁).calling g' mk' As.toArray, t, U', L, hT, X', hL, e1, e2, hq, fun target h => hstep₁ _ fun acts => by rw [doInvoke_state]; exact hsteps.trans h⟩
  · dsimp only [Pt.U, Pt.locs, Pt.cells, Pt.slots] at X' e1 e2 h1 h2 h3 hsteps hcl
    subst h1; subst h2; subst h3
    exact Or.inr ⟨q, (T.setVm vm₁).calling g' mk' As.toArray, t, U', L, E, ce, hT, X', hL, e1, e2, hq, hce, hcv, vx_cls X₁.warmed hcl, hstep₁ _ fun acts => by rw [doInvoke_state]; exact hsteps⟩
/-- a method that is inherited, or overridden, returning or throwing: va_runU with one case more -/
theorem vx_runU {x y : MethodName} {bytes cc : ByteArray} {maxL nL mc ms n index : Nat} {ret : Option FieldType} {ws : List Cond} {rm : Room} {Pc : Array Value → State → Prop} {Qc : Array Value → State → Outcome → State → Prop} {XC : String → State → State → Prop} {free : Addr → Prop} {Ts : List Cond} {own C owner : String} {b : Addr} {As rest : List Value} {g : JFrame}
    (S : CallFix p m c cc nL s args Ts own) (hM : vx_Met l y ws rm Pc Qc XC mc ms free) (cw : va_CU R s args own C owner index x y bytes maxL ret ws rm mc ms n) (hp : PreV s H C b Pc As)
    (hg : g.method = m) (hn : As.length = n) (hsize : g.locals.size = nL) (hstack : g.stack = As.reverse ++ .ref b :: rest) (hW : 2 * g.monitorRoom + (rest.map fun v => v.category).sum ≤ 8) (hdg : decode cc g.pc = .ok (.invokevirtual index, 3)) (hf : cells + mc ≤ R.cells ∧ slots + ms ≤ R.slots) :
    vx_Run p l e R s m args below meth c H locs cells slots mc ms g rest (Qc (Value.ref b :: As).toArray) XC free := by
  obtain ⟨⟨hrc, hrs, hfr, hlo, hws, hcw⟩, hcode, hini, howner, hlen, hlink, hsame, hdecl, hsel, hinst⟩ := cw
  have hK : vx_Back l R p e below s args y 3 8 (PreOf R mc ms Pc) (PostOf Qc mc ms free) (vx_Post XC mc ms free) := vx_back (bytes := bytes) (maxL := maxL) (ret := ret) hM hp.1 hrc hrs hfr hlo hws hcw (fun a' U hW => word_at hW (Or.inl (by first | rfl | simp [Cond.onTables, Cond.keeps, Cond.steady])) hini)
  obtain ⟨hx, hb, hml, ho, -⟩ := S
  obtain ⟨-, ⟨cellB, hcB, hoB, hclB⟩, hPc⟩ := hp
  intro T hT X
  obtain ⟨r0, r, hn0, hrm, hstR, hsigR⟩ := hdecl
  obtain ⟨cn, ck, r1, hcn, hck, hni, hf0, hn1⟩ := Cond.sameMethod_found hsame
  cases hn0.symm.trans hn1
  obtain ⟨mk, methM, hnamed, hmethM, -, habM⟩ := Cond.instanceMethod_spec hinst
  obtain ⟨c2, r2, m2, q1, q2, q3, q4, kP, hkP, hkPi⟩ := Cond.selects_spec hsel
  cases hclB.symm.trans q1
  cases hf0.symm.trans q2
  cases hnamed.symm.trans q3
  have hselP : selectMethod e.platform s.vm cellB.cls r0 = .method mk := by rw [Launch.admits_selectMethod X.admits]; exact q4
  have hdg' : decode c.code g.pc = .ok (.invokevirtual index, 3) := by rw [hb]; exact hdg
  obtain ⟨vm₁, X₁, hstep₁⟩ := X.invokevirtualUp hx ho hlink hsame howner hn0 hrm hstR (a := b) (cell := cellB) (by rw [hT]; exact hcB)
    (fun z h => by rw [h] at hoB; cases hoB) hselP hmethM habM hkP hkPi (g := g) hg (argsL := As) (rest := rest) (hn.trans (hlen _ hsigR)) hstack hdg'
  rcases hK m meth c ⟨T.setVm vm₁, locs, cells, slots⟩ { g with stack := rest } (.invokevirtual index) mk (Value.ref b :: As).toArray X₁ hg (hsize.trans hml.symm) hdg' hW (X₁.named hnamed) ⟨hf.1, hf.2, hPc (T.setVm vm₁) hT X₁.warmed⟩ with ⟨v, ⟨U', l2, c2, s2⟩, X', ⟨g', mk', t, L, e1, e2, hq, h1, hL, h2, h3⟩, hsteps⟩ | ⟨q, ⟨U', l2, c2, s2⟩, X', ⟨g', mk', t, L, E, ce, e1, e2, hq, hce, hcv, hcl, h1, hL, h2, h3⟩, hsteps⟩
  · dsimp only [Pt.U, Pt.locs, Pt.cells, Pt.slots] at X' e1 e2 h1 h2 h3 hsteps
    subst h1; subst h2; subst h3
    exact Or.inl ⟨v, (T.setVm vm₁).calling g' mk' (Value.ref b :: As).toArray, t, U', L, hT, X', hL, e1, e2, hq, fun target h => hstep₁ _ fun acts => by rw [doInvoke_state]; exact hsteps.trans h⟩
  · dsimp only [Pt.U, Pt.locs, Pt.cells, Pt.slots] at X' e1 e2 h1 h2 h3 hsteps hcl
    subst h1; subst h2; subst h3
    exact Or.inr ⟨q, (T.setVm vm₁).calling g' mk' (Value.ref b :: As).toArray, t, U', L, E, ce, hT, X', hL, e1, e2, hq, hce, hcv, vx_cls X₁.warmed hcl, hstep₁ _ fun acts => by rw [doInvoke_state]; exact hsteps⟩
end GCALL0
section GCALL
variable {E : gE} {μ : gMd} {d : Nat} {Q : gO → gS → Prop} {k n : Nat} {σ : gS} {pc : Nat} {lv : List (Nat × Value)} {st : List Value}
/-- thrown: from the place pc, with an exception of the class En over this frame, the run comes to an end that Q tells -/
def gGx (E : gE) (μ : gMd) (d : Nat) (Q : gO → gS → Prop) (k n : Nat) (σ : gS) (pc : Nat) (lv : List (Nat × Value)) (rest : List Value) (En : String) : Prop :=
  ∀ (mcT msT : Nat) (p : Program) (l : Launch) (e : Env) (R : Room) (s : State) (m : MethodId) (args : Array Value) (below : List Frame) (meth : Method) (c : Code) (Z : State → Prop), gCx E μ d Q mcT msT p l e R s m args below meth c Z →
    ∀ (H : Heap) (locs : List Loc) (cells slots : Nat) (ls : Array Slot) (q : Addr) (ce : Cell), gHH E σ H → va_S (gA E) s.heap H locs → cells + k ≤ mcT → slots + n ≤ msT → lv_has ls (md_n μ) lv → H[q]? = some ce → ce.vm = .none → s.vm.findClass En = some ce.cls → vx_W p l e R s m args below meth c H locs cells slots Z (F0 m pc ls rest) q
theorem gtab {c : Code} {h : List (Nat × Nat × Nat × Nat)} (ht : c.exceptionTable.toList = tableOf h) (hout : ∀ z ∈ h, ¬ (z.1 ≤ pc ∧ pc < z.2.1)) : ∀ x ∈ c.exceptionTable.toList, covers x pc = false := by
  intro x hx
  rw [ht] at hx
  obtain ⟨z, hz, rfl⟩ := List.mem_map.mp hx
  have h0 := hout z hz
  unfold covers
  by_cases h1 : z.1 ≤ pc
  · have h2 : ¬ pc < z.2.1 := fun h => h0 ⟨h1, h⟩
    simp [h2]
  · simp [h1]
/-- it leaves the method -/
theorem g_out {rest : List Value} {En : String} (hl0 : md_l μ = false) (hout : ∀ z ∈ md_h μ, ¬ (z.1 ≤ pc ∧ pc < z.2.1)) (hq : Q (.inr En) σ) : gGx E μ d Q k n σ pc lv rest En := by
  intro mcT msT p l e R s m args below meth c Z cx H locs cells slots ls q ce hH hS hc hs hl hce hcv hcl
  obtain ⟨-, -, -, -, -, -, -, -, -, hlocks, htab, hZ, -⟩ := cx
  rw [hZ hl0]
  exact vx_out (gtab htab hout) hlocks hce hcv hcl (fun t ht _ => ⟨σ, hq, by rw [ht]; exact hH, hS.F ht⟩) (fun z hz => hS.2.2 z hz) (by omega) (by omega)
theorem g_outs {rest : List Value} {En : String} (hl0 : md_l μ = false) (hh : md_h μ = []) (hq : Q (.inr En) σ) : gGx E μ d Q k n σ pc lv rest En := g_out hl0 (fun z hz => by rw [hh] at hz; exact absurd hz List.not_mem_nil) hq
/-- a call that returns or throws -/
theorem g_runx {mc ms : Nat} {Q' : gO → gS → Prop} {rest : List Value} (hk : mc ≤ k) (hn : ms ≤ n)
    (hr : ∀ (mcT msT : Nat) (p : Program) (l : Launch) (e : Env) (R : Room) (s : State) (m : MethodId) (args : Array Value) (below : List Frame) (meth : Method) (c : Code) (Z : State → Prop), gCx E μ d Q mcT msT p l e R s m args below meth c Z → ∀ (H : Heap) (locs : List Loc) (cells slots : Nat) (ls : Array Slot), gHH E σ H → cells + k ≤ mcT → slots + n ≤ msT → lv_has ls (md_n μ) lv → ∃ a : Array Value, vx_Run p l e R s m args below meth c H locs cells slots mc ms (F0 m pc ls st) rest (gQC E Q' a) (gXC E Q') (gA E))
    (kk : ∀ (v : Option Value) (σ' : gS), Q' (.inl v) σ' → gG E μ d Q (k - mc) (n - ms) σ' (pc + 3) lv (v.toList ++ rest)) (kx : ∀ (En : String) (σ' : gS), Q' (.inr En) σ' → gGx E μ d Q (k - mc) (n - ms) σ' pc lv rest En) : gG E μ d Q k n σ pc lv st := by
  intro mcT msT p l e R s m args below meth c Z cx H locs cells slots ls hH hS hc hs hl T hT X
  obtain ⟨a, hr⟩ := hr mcT msT p l e R s m args below meth c Z cx H locs cells slots ls hH hc hs hl
  rcases hr T hT X with ⟨v, st₀, t, T', L, h0, X', hL, e1, e2, ⟨v', σ', hv, hq, hh, hF⟩, st1⟩ | ⟨q, st₀, t, T', L, En, ce, h0, X', hL, e1, e2, ⟨σ', hq, hh, hF⟩, hce, hcv, hcl, st1⟩
  · cases hv
    obtain ⟨k1, k2, k3⟩ := vx_keep h0 e1 hS (fun q _ h => h) (fun q h => h) hL hF
    obtain ⟨t2, a1, b1⟩ := kk v σ' hq mcT msT p l e R s m args below meth c Z cx T'.heap (locs ++ L) (cells + mc) (slots + ms) ls (by rw [e1]; exact hh) k3 (by omega) (by omega) hl T' rfl X'
    exact ⟨t2, st1 t2 a1, b1⟩
  · obtain ⟨k1, k2, k3⟩ := vx_keep h0 e1 hS (fun q _ h => h) (fun q h => h) hL hF
    obtain ⟨t2, a1, b1⟩ := kx En σ' hq mcT msT p l e R s m args below meth c Z cx T'.heap (locs ++ L) (cells + mc) (slots + ms) ls q ce (by rw [e1]; exact hh) k3 (by omega) (by omega) hl (by rw [e1]; exact hce) hcv hcl T' rfl X'
    exact ⟨t2, st1.trans a1, b1⟩
/-- a call that returns -/
theorem g_runm {mc ms : Nat} {Q' : gO → gS → Prop} {rest : List Value} (hk : mc ≤ k) (hn : ms ≤ n)
    (hr : ∀ (mcT msT : Nat) (p : Program) (l : Launch) (e : Env) (R : Room) (s : State) (m : MethodId) (args : Array Value) (below : List Frame) (meth : Method) (c : Code) (Z : State → Prop), gCx E μ d Q mcT msT p l e R s m args below meth c Z → ∀ (H : Heap) (locs : List Loc) (cells slots : Nat) (ls : Array Slot), gHH E σ H → cells + k ≤ mcT → slots + n ≤ msT → lv_has ls (md_n μ) lv → ∃ a : Array Value, va_Run p l e R s m args below meth c H locs cells slots mc ms (F0 m pc ls st) rest (gQC E Q' a) (gA E))
    (kk : ∀ (v : Option Value) (σ' : gS), Q' (.inl v) σ' → gG E μ d Q (k - mc) (n - ms) σ' (pc + 3) lv (v.toList ++ rest)) : gG E μ d Q k n σ pc lv st := by
  intro mcT msT p l e R s m args below meth c Z cx H locs cells slots ls hH hS hc hs hl T hT X
  obtain ⟨a, hr⟩ := hr mcT msT p l e R s m args below meth c Z cx H locs cells slots ls hH hc hs hl
  obtain ⟨v, st₀, t, T', L, h0, X', hL, e1, e2, ⟨v', σ', hv, hq, hh, hF⟩, st1⟩ := hr T hT X
  cases hv
  obtain ⟨k1, k2, k3⟩ := vx_keep h0 e1 hS (fun q _ h => h) (fun q h => h) hL hF
  obtain ⟨t2, a1, b1⟩ := kk v σ' hq mcT msT p l e R s m args below meth c Z cx T'.heap (locs ++ L) (cells + mc) (slots + ms) ls (by rw [e1]; exact hh) k3 (by omega) (by omega) hl T' rfl X'
  exact ⟨t2, st1 t2 a1, b1⟩
theorem gPc_blind (E : gE) (As : List Value) (σ : gS) : FrameBlind (gPc E As σ) := fun a U g mk h => ⟨h.1, gKK.moved (s := U) (U := U.calling g mk a) (State.WarmedH.refl U) h.2.1, h.2.2⟩
/-- a contract that never throws -/
theorem CT.met {μ' : gMd} {d' mc ms : Nat} {As : List Value} {Q' : gO → gS → Prop} (h : CT E μ' d' mc ms As σ Q') (hx : ∀ En σ', ¬ Q' (.inr En) σ') (l : Launch) (hl : l.stackTraces = false) : Met l (md_y μ') (gcw μ' :: wA) (gRm d' mc ms) (gPc E As σ) (gQC E Q') mc ms (gA E) :=
  MetFree.mono (h l hl) (fun _ _ h => h) (fun _ _ _ _ _ h => h) (fun a s o s' _ hq => hq.elim id (fun ⟨q, _, En, ce, L, ⟨σ', h1, _⟩, _⟩ => absurd h1 (hx En σ')))
theorem gcw_plain {μ' : gMd} (h : md_h μ' = []) : gcw μ' = .code (md_y μ') (md_c μ') (md_n μ') (md_r μ') := by
  unfold gcw
  rw [h]
theorem good_cat {l1 : List Cond} {w0 : Cond} (h1 : ∀ w ∈ l1, w ∈ wA) (h2 : w0 ∈ wA) : GoodIn wA (l1 ++ (w0 :: wA)) := wA_good (fun w h => (List.mem_append.mp h).elim (h1 w) (fun h => (List.mem_cons.mp h).elim (fun e => by rw [e]; exact h2) id))
theorem good_one {w0 : Cond} (h2 : w0 ∈ wA) : GoodIn wA (w0 :: wA) := wA_good (fun w h => (List.mem_cons.mp h).elim (fun e => by rw [e]; exact h2) id)
/-- what a call asks of the callee's name -/
def gNm (μ' : gMd) (nA : Nat) : Prop := (md_y μ').cls ≠ "java/lang/invoke/MethodHandle" ∧ (md_y μ').cls ≠ "java/lang/invoke/VarHandle" ∧ (parseMethodDescriptor (md_y μ').desc).map (fun d => d.parameters.length) = some nA
/-- the room of a call -/
theorem groom {d' : Nat} {μ' : gMd} {mc ms : Nat} {R : Room} (hR : d ≤ R.frames ∧ 60 * d ≤ R.locals) (hd : d' + 1 ≤ d) (hml : md_n μ' ≤ 40) : (gRm d' mc ms).frames + 1 ≤ R.frames ∧ 8 + (md_n μ' + 11) + (gRm d' mc ms).locals ≤ R.locals := ⟨Nat.le_trans hd hR.1, by
  show 8 + (md_n μ' + 11) + 60 * d' ≤ R.locals
  have := hR.2
  omega⟩
/-- sites: a method called on an object of class ci -/
def gSV (own : String) (idx ci : Nat) (μ' : gMd) (nA : Nat) : Prop := ∃ (C : String) (T : u_T) (N : Nat), gcl[ci]? = some (C, T, N) ∧ md_h μ' = [] ∧ (∀ w ∈ ([.methodLink own idx (md_y μ'), .instanceMethod (md_y μ'), .selects C (md_y μ') (md_y μ'), .initialized C] : List Cond), w ∈ wA) ∧ gcw μ' ∈ wA ∧ (md_y μ').cls = C ∧ gNm μ' nA ∧ md_n μ' ≤ 40
theorem g_callV {own : String} {idx ci j nA d' mc ms : Nat} {μ' : gMd} {As rest : List Value} {Q' : gO → gS → Prop} (hs : gSV own idx ci μ' nA) (ho : md_o μ = own) (hm : CT E μ' d' mc ms (.ref (gX E + j) :: As) σ Q') (hkd : kd j = (0, ci)) (hj : j < gn σ) (hst : st = As.reverse ++ .ref (gX E + j) :: rest) (hnA : As.length = nA) (hcat : (rest.map fun v => v.category).sum ≤ 8) (hd : d' + 1 ≤ d) (hk : mc ≤ k) (hn : ms ≤ n) (hdg : decode (md_c μ) pc = .ok (.invokevirtual idx, 3))
    (kk : ∀ (v : Option Value) (σ' : gS), Q' (.inl v) σ' → gG E μ d Q (k - mc) (n - ms) σ' (pc + 3) lv (v.toList ++ rest)) (kx : ∀ (En : String) (σ' : gS), Q' (.inr En) σ' → gGx E μ d Q (k - mc) (n - ms) σ' pc lv rest En) : gG E μ d Q k n σ pc lv st := by
  refine g_runx hk hn (fun mcT msT p l e R s m args below meth c Z cx H locs cells slots ls hH hc hss hl => ?_) kk kx
  obtain ⟨hx, hb, hml, hown, hts, hKK, hR, hB, hl0, -⟩ := cx
  obtain ⟨C, T, N, hc1, hh, hw, hcw, hyC, hnm, hn40⟩ := hs
  obtain ⟨hBB, h572, hsz, τ, ht1, ht2, hP, hD⟩ := id hH
  have he : (gws E τ σ)[j]? = some (gX E + j, .inr (ci, fvs E τ σ ci j)) := by rw [gws_at hj, cellE_0 hkd, adr_of (by rw [hkd]; show (0 : Nat) ≠ 7; decide)]
  have hT : GoodIn wA (wsV own idx C (md_y μ') (gcw μ' :: wA)) := good_cat hw hcw
  exact ⟨_, vx_runV (g := F0 m pc ls st) (nL := md_n μ) ⟨hx, hb, hml, by rw [← ho]; exact hown, hts⟩ (hm l hl0) (cwV nA hts hT (by rw [gcw_plain hh]) rfl rfl ⟨hyC, hnm⟩ (groom ⟨hR.1, hR.2.1⟩ hd hn40)) ⟨gPc_blind _ _ _, va_recv hKK.1 hP hc1 he, fun U hU hW => ⟨rfl, hKK.moved hW, by rw [hU]; exact hH⟩⟩ rfl hnA hl.1 hst (lv_room hcat) hdg ⟨by rw [hR.2.2.1]; omega, by rw [hR.2.2.2]; omega⟩⟩
/-- a static method of the own class -/
def gSS (own : String) (idx : Nat) (μ' : gMd) (nA : Nat) : Prop := md_h μ' = [] ∧ (∀ w ∈ ([.methodLink own idx (md_y μ'), .static (md_y μ'), .initialized (md_y μ').cls] : List Cond), w ∈ wA) ∧ gcw μ' ∈ wA ∧ gNm μ' nA ∧ md_n μ' ≤ 40
theorem g_callS {own : String} {idx nA d' mc ms : Nat} {μ' : gMd} {As rest : List Value} {Q' : gO → gS → Prop} (hs : gSS own idx μ' nA) (ho : md_o μ = own) (hm : CT E μ' d' mc ms As σ Q') (hst : st = As.reverse ++ rest) (hnA : As.length = nA) (hcat : (rest.map fun v => v.category).sum ≤ 8) (hd : d' + 1 ≤ d) (hk : mc ≤ k) (hn : ms ≤ n) (hdg : decode (md_c μ) pc = .ok (.invokestatic idx, 3))
    (kk : ∀ (v : Option Value) (σ' : gS), Q' (.inl v) σ' → gG E μ d Q (k - mc) (n - ms) σ' (pc + 3) lv (v.toList ++ rest)) (kx : ∀ (En : String) (σ' : gS), Q' (.inr En) σ' → gGx E μ d Q (k - mc) (n - ms) σ' pc lv rest En) : gG E μ d Q k n σ pc lv st := by
  refine g_runx hk hn (fun mcT msT p l e R s m args below meth c Z cx H locs cells slots ls hH hc hss hl => ?_) kk kx
  obtain ⟨hx, hb, hml, hown, hts, hKK, hR, hB, hl0, -⟩ := cx
  obtain ⟨hh, hw, hcw, hnm, hn40⟩ := hs
  have hT : GoodIn wA (va_wsS own idx (md_y μ') (gcw μ' :: wA)) := good_cat hw hcw
  exact ⟨_, vx_runS (g := F0 m pc ls st) (nL := md_n μ) ⟨hx, hb, hml, by rw [← ho]; exact hown, hts⟩ (hm l hl0) (va_cwS nA hts hT (by rw [gcw_plain hh]) rfl rfl hnm (groom ⟨hR.1, hR.2.1⟩ hd hn40)) ⟨gPc_blind _ _ _, fun U hU hW => ⟨rfl, hKK.moved hW, by rw [hU]; exact hH⟩⟩ rfl hnA hl.1 hst (lv_room hcat) hdg ⟨by rw [hR.2.2.1]; omega, by rw [hR.2.2.2]; omega⟩⟩
/-- a nest mate's static method -/
def gSN (own : String) (idx : Nat) (μ' : gMd) (nA : Nat) : Prop := ∃ host : String, md_h μ' = [] ∧ Cond.methodLinkNest own idx (md_y μ') host ∈ wN ∧ (∀ w ∈ ([.static (md_y μ'), .initialized (md_y μ').cls] : List Cond), w ∈ wA) ∧ gcw μ' ∈ wA ∧ gNm μ' nA ∧ md_n μ' ≤ 40
theorem g_callN {own : String} {idx nA d' mc ms : Nat} {μ' : gMd} {As rest : List Value} {Q' : gO → gS → Prop} (hs : gSN own idx μ' nA) (ho : md_o μ = own) (hm : CT E μ' d' mc ms As σ Q') (hst : st = As.reverse ++ rest) (hnA : As.length = nA) (hcat : (rest.map fun v => v.category).sum ≤ 8) (hd : d' + 1 ≤ d) (hk : mc ≤ k) (hn : ms ≤ n) (hdg : decode (md_c μ) pc = .ok (.invokestatic idx, 3))
    (kk : ∀ (v : Option Value) (σ' : gS), Q' (.inl v) σ' → gG E μ d Q (k - mc) (n - ms) σ' (pc + 3) lv (v.toList ++ rest)) (kx : ∀ (En : String) (σ' : gS), Q' (.inr En) σ' → gGx E μ d Q (k - mc) (n - ms) σ' pc lv rest En) : gG E μ d Q k n σ pc lv st := by
  refine g_runx hk hn (fun mcT msT p l e R s m args below meth c Z cx H locs cells slots ls hH hc hss hl => ?_) kk kx
  obtain ⟨hx, hb, hml, hown, hts, hKK, hR, hB, hl0, -⟩ := cx
  obtain ⟨host, hh, hlk, hw, hcw, hnm, hn40⟩ := hs
  exact ⟨_, vx_runSN (g := F0 m pc ls st) (nL := md_n μ) ⟨hx, hb, hml, by rw [← ho]; exact hown, hts⟩ (hm l hl0) ⟨va_cnB nA hts (good_one hcw) (by rw [gcw_plain hh]) rfl rfl (hKK.2.2.2.2.1 _ hlk) (hts _ (hw _ (by simp))) hnm (groom ⟨hR.1, hR.2.1⟩ hd hn40), hts _ (hw _ (by simp)), trivial⟩ ⟨gPc_blind _ _ _, fun U hU hW => ⟨rfl, hKK.moved hW, by rw [hU]; exact hH⟩⟩ rfl hnA hl.1 hst (lv_room hcat) hdg ⟨by rw [hR.2.2.1]; omega, by rw [hR.2.2.2]; omega⟩⟩
/-- an inherited method: named as x, found as y in the class above -/
def gSU (own : String) (idx ci : Nat) (μ' : gMd) (nA : Nat) : Prop := ∃ (C : String) (T : u_T) (N : Nat) (x : MethodName), gcl[ci]? = some (C, T, N) ∧ md_h μ' = [] ∧ (∀ w ∈ ([.methodLink own idx x, .sameMethod x.cls (md_y μ').cls x.name x.desc, .selects C x (md_y μ'), .instanceMethod (md_y μ'), .initialized (md_y μ').cls] : List Cond), w ∈ wA) ∧ gcw μ' ∈ wA ∧ md_y μ' = ⟨(md_y μ').cls, x.name, x.desc⟩ ∧ gNm μ' nA ∧ md_n μ' ≤ 40
theorem g_callU {own : String} {idx ci j nA d' mc ms : Nat} {μ' : gMd} {As rest : List Value} {Q' : gO → gS → Prop} (hs : gSU own idx ci μ' nA) (ho : md_o μ = own) (hm : CT E μ' d' mc ms (.ref (gX E + j) :: As) σ Q') (hkd : kd j = (0, ci)) (hj : j < gn σ) (hst : st = As.reverse ++ .ref (gX E + j) :: rest) (hnA : As.length = nA) (hcat : (rest.map fun v => v.category).sum ≤ 8) (hd : d' + 1 ≤ d) (hk : mc ≤ k) (hn : ms ≤ n) (hdg : decode (md_c μ) pc = .ok (.invokevirtual idx, 3))
    (kk : ∀ (v : Option Value) (σ' : gS), Q' (.inl v) σ' → gG E μ d Q (k - mc) (n - ms) σ' (pc + 3) lv (v.toList ++ rest)) (kx : ∀ (En : String) (σ' : gS), Q' (.inr En) σ' → gGx E μ d Q (k - mc) (n - ms) σ' pc lv rest En) : gG E μ d Q k n σ pc lv st := by
  refine g_runx hk hn (fun mcT msT p l e R s m args below meth c Z cx H locs cells slots ls hH hc hss hl => ?_) kk kx
  obtain ⟨hx, hb, hml, hown, hts, hKK, hR, hB, hl0, -⟩ := cx
  obtain ⟨C, T, N, x, hc1, hh, hw, hcw, hyx, hnm, hn40⟩ := hs
  obtain ⟨hBB, h572, hsz, τ, ht1, ht2, hP, hD⟩ := id hH
  have he : (gws E τ σ)[j]? = some (gX E + j, .inr (ci, fvs E τ σ ci j)) := by rw [gws_at hj, cellE_0 hkd, adr_of (by rw [hkd]; show (0 : Nat) ≠ 7; decide)]
  have hT : GoodIn wA (va_wsU own idx C (md_y μ').cls x (md_y μ') (gcw μ' :: wA)) := good_cat hw hcw
  have hdsc : (md_y μ').desc = x.desc := by rw [hyx]
  exact ⟨_, vx_runU (g := F0 m pc ls st) (nL := md_n μ) ⟨hx, hb, hml, by rw [← ho]; exact hown, hts⟩ (hm l hl0) (va_cwU nA hts hT (by rw [gcw_plain hh]) rfl rfl hyx ⟨hnm.1, hnm.2.1, by rw [← hdsc]; exact hnm.2.2⟩ (groom ⟨hR.1, hR.2.1⟩ hd hn40)) ⟨gPc_blind _ _ _, va_recv hKK.1 hP hc1 he, fun U hU hW => ⟨rfl, hKK.moved hW, by rw [hU]; exact hH⟩⟩ rfl hnA hl.1 hst (lv_room hcat) hdg ⟨by rw [hR.2.2.1]; omega, by rw [hR.2.2.2]; omega⟩⟩
end GCALL
