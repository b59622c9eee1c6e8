/-! JDK's StringBuilder: the running machine with the texts' hidden parts shown; a state is (ints .., the texts' hidden parts, cells made beside the world) -/
section HID
abbrev hS : Type := gV × gT × va_W
def hws (E : gE) (ρ : hS) : va_W := gws E ρ.2.1 (rS ρ.1) ++ ρ.2.2
def hHR (E : gE) (ρ : hS) (H : Heap) : Prop := gB E H ∧ va_P E.1 gcl (hws E ρ) H ∧ va_D (gA E) (hws E ρ)
def hQC (E : gE) (Q : Option Value → hS → Prop) : Array Value → State → Outcome → State → Prop := fun _ st o t => ∃ (v : Option Value) (ρ : hS), o = .returned v ∧ Q v ρ ∧ hHR E ρ t.heap ∧ va_F (gA E) st t
def hPc (E : gE) (As : List Value) (ρ : hS) : Array Value → State → Prop := va_Pc As (fun U => gKK E U ∧ hHR E ρ U.heap)
/-- a contract of a method that only returns -/
def HC (E : gE) (μ : gMd) (d mc ms : Nat) (As : List Value) (ρ : hS) (Q : Option Value → hS → Prop) : Prop := ∀ l : Launch, Met l (md_y μ) (gcw μ :: wA) (gRm d mc ms) (hPc E As ρ) (hQC E Q) mc ms (gA E)
def hCx (E : gE) (μ : gMd) (d : Nat) (mcT msT : Nat) (p : Program) (l : Launch) (e : Env) (R : Room) (s : State) (m : MethodId) (args : Array Value) (below : List Frame) (meth : Method) (c : Code) : Prop :=
  p.tables.exec = Jvm.exec ∧ c.code = md_c μ ∧ c.maxLocals = md_n μ ∧ s.vm.findClass (md_o μ) = some m.cls ∧ (∀ w ∈ wA, w.before args s = true) ∧ gKK E s ∧ (d ≤ R.frames ∧ 60 * d ≤ R.locals ∧ R.cells = mcT ∧ R.slots = msT) ∧ gB E s.heap ∧ meth.locks = false ∧ meth.sig.returnType = md_r μ
def hG (E : gE) (μ : gMd) (d : Nat) (Q : Option Value → hS → Prop) (k n : Nat) (ρ : hS) (pc : Nat) (lv : List (Nat × Value)) (st : List Value) : Prop :=
  ∀ (mcT msT : Nat) (p : Program) (l : Launch) (e : Env) (R : Room) (s : State) (m : MethodId) (args : Array Value) (below : List Frame) (meth : Method) (c : Code), hCx E μ d mcT msT p l e R s m args below meth c →
    ∀ (H : Heap) (locs : List Loc) (cells slots : Nat) (ls : Array Slot), hHR E ρ H → va_S (gA E) s.heap H locs → cells + k ≤ mcT → slots + n ≤ msT → lv_has ls (md_n μ) lv → W p l e R s m args below meth c H locs cells slots (MQ below (hQC E Q) args s mcT msT (gA E)) (F0 m pc ls st)
variable {E : gE} {μ : gMd} {d : Nat} {Q : Option Value → hS → Prop} {k n : Nat} {ρ : hS} {pc : Nat} {lv : List (Nat × Value)} {st : List Value}
theorem hx_ {mcT msT : Nat} {p : Program} {l : Launch} {e : Env} {R : Room} {s : State} {m : MethodId} {args : Array Value} {below : List Frame} {meth : Method} {c : Code} (h : hCx E μ d mcT msT p l e R s m args below meth c) : p.tables.exec = Jvm.exec := h.1
theorem hb_ {mcT msT : Nat} {p : Program} {l : Launch} {e : Env} {R : Room} {s : State} {m : MethodId} {args : Array Value} {below : List Frame} {meth : Method} {c : Code} (h : hCx E μ d mcT msT p l e R s m args below meth c) : c.code = md_c μ := h.2.1
theorem HC.of {mc ms : Nat} {As : List Value} (h0 : gOkF μ) (hh : md_h μ = []) (hlen : (lg_sl As).length ≤ md_n μ) (body : hG E μ d Q mc ms ρ 0 (lv_args 0 As) []) : HC E μ d mc ms As ρ Q := by
  intro l
  refine va_MetF (cc := md_c μ) (maxL := md_n μ) (ret := md_r μ) h0.1 (by rw [gcw_plain hh]) ?_
  intro p e s m args below meth c s₁ B hml hv
  obtain ⟨rfl, hKK, hH⟩ := hv
  have hts := atoms_spec (ws := gcw μ :: wA) B.pre
  have hown : s.vm.findClass (md_o μ) = some m.cls := by rw [← h0.2.1]; exact findClass_of_methodNamed B.named
  rw [lg_entry_eq]
  exact body mc ms p l e _ s m _ below meth c ⟨B.exec, B.bytes, hml, hown, fun w hw => hts w (List.mem_cons_of_mem _ hw), hKK, ⟨Nat.le_refl _, Nat.le_refl _, rfl, rfl⟩, hH.1, B.notSynchronized, B.returns⟩ s.heap [] 0 0 _ hH va_S.rf (by omega) (by omega) (lv_entry As hlen)
theorem h_ret (v : Option Value) (h0 : gRet (md_c μ) (md_r μ) pc v st) (hq : Q v ρ) : hG E μ d Q k n ρ pc lv st := by
  intro mcT msT p l e R s m args below meth c cx H locs cells slots ls hH hS hc hs hl
  obtain ⟨hx, hb, -, -, -, -, -, -, hlocks, hr⟩ := cx
  refine W.widen (show cells ≤ mcT by omega) (show slots ≤ msT by omega) ?_
  rcases h0 with ⟨e1, rfl, rfl, hd⟩ | ⟨x, ty, e1, hn, rfl, rfl, hd⟩ | ⟨x, e1, rfl, rfl, hd⟩ | ⟨x, e1, rfl, rfl, hd⟩ | ⟨x, e1, rfl, rfl, hd⟩ | ⟨x, nm, e1, rfl, rfl, hd⟩
  · exact W.vret hx hb (hr.trans e1) (fun t ht _ => ⟨none, ρ, rfl, hq, by rw [ht]; exact hH, hS.F ht⟩) hS.2.2 hd hlocks
  · exact W.zret hx hb (hr.trans e1) hn (fun t ht _ => ⟨_, ρ, rfl, hq, by rw [ht]; exact hH, hS.F ht⟩) hS.2.2 hd hlocks
  · exact W.lret hx hb (hr.trans e1) (fun t ht _ => ⟨_, ρ, rfl, hq, by rw [ht]; exact hH, hS.F ht⟩) hS.2.2 hd hlocks
  · exact W.fret hx hb (hr.trans e1) (fun t ht _ => ⟨_, ρ, rfl, hq, by rw [ht]; exact hH, hS.F ht⟩) hS.2.2 hd hlocks
  · exact W.dret hx hb (hr.trans e1) (fun t ht _ => ⟨_, ρ, rfl, hq, by rw [ht]; exact hH, hS.F ht⟩) hS.2.2 hd hlocks
  · exact W.aret hx hb (hr.trans e1) (Or.inl ⟨_, rfl⟩) (Or.inr ⟨_, rfl⟩) (fun t ht _ => ⟨_, ρ, rfl, hq, by rw [ht]; exact hH, hS.F ht⟩) hS.2.2 hd hlocks
theorem h_vret (hr : md_r μ = none) (hdg : decode (md_c μ) pc = .ok (.return_, 1)) (hq : Q none ρ) : hG E μ d Q k n ρ pc lv [] := h_ret none (Or.inl ⟨hr, rfl, rfl, hdg⟩) hq
theorem h_iret {x : Int32} (hr : md_r μ = some .int) (hdg : decode (md_c μ) pc = .ok (.ireturn, 1)) (hq : Q (some (.int x)) ρ) : hG E μ d Q k n ρ pc lv [.int x] := h_ret _ (Or.inr (Or.inl ⟨x, .int, hr, rfl, rfl, rfl, hdg⟩)) hq
theorem h_zret {x : Int32} {ty : FieldType} (hr : md_r μ = some ty) (hn : narrow ty (.int x) = .int x) (hdg : decode (md_c μ) pc = .ok (.ireturn, 1)) (hq : Q (some (.int x)) ρ) : hG E μ d Q k n ρ pc lv [.int x] := h_ret _ (Or.inr (Or.inl ⟨x, ty, hr, hn, rfl, rfl, hdg⟩)) hq
theorem h_aret {x : Nat} {nm : String} (hr : md_r μ = some (.object nm)) (hdg : decode (md_c μ) pc = .ok (.areturn, 1)) (hq : Q (some (.ref x)) ρ) : hG E μ d Q k n ρ pc lv [.ref x] := h_ret _ (Or.inr (Or.inr (Or.inr (Or.inr (Or.inr ⟨x, nm, hr, rfl, rfl, hdg⟩))))) hq
theorem h_iadd {x y : Int32} (hdg : decode (md_c μ) pc = .ok (.iadd, 1))  (kk : hG E μ d Q k n ρ (pc + 1) lv (.int (x + y) :: st)) : hG E μ d Q k n ρ pc lv (.int y :: .int x :: st) := fun _ _ _ _ _ _ _ _ _ _ _ _ cx H locs cells slots ls hH hS hc hs hl => lv_iadd (hx_ cx) (hb_ cx) hdg  (kk _ _ _ _ _ _ _ _ _ _ _ _ cx H locs cells slots ls hH hS hc hs hl)
theorem h_isub {x y : Int32} (hdg : decode (md_c μ) pc = .ok (.isub, 1))  (kk : hG E μ d Q k n ρ (pc + 1) lv (.int (x - y) :: st)) : hG E μ d Q k n ρ pc lv (.int y :: .int x :: st) := fun _ _ _ _ _ _ _ _ _ _ _ _ cx H locs cells slots ls hH hS hc hs hl => lv_isub (hx_ cx) (hb_ cx) hdg  (kk _ _ _ _ _ _ _ _ _ _ _ _ cx H locs cells slots ls hH hS hc hs hl)
theorem h_imul {x y : Int32} (hdg : decode (md_c μ) pc = .ok (.imul, 1))  (kk : hG E μ d Q k n ρ (pc + 1) lv (.int (x * y) :: st)) : hG E μ d Q k n ρ pc lv (.int y :: .int x :: st) := fun _ _ _ _ _ _ _ _ _ _ _ _ cx H locs cells slots ls hH hS hc hs hl => lv_imul (hx_ cx) (hb_ cx) hdg  (kk _ _ _ _ _ _ _ _ _ _ _ _ cx H locs cells slots ls hH hS hc hs hl)
theorem h_iand {x y : Int32} (hdg : decode (md_c μ) pc = .ok (.iand, 1))  (kk : hG E μ d Q k n ρ (pc + 1) lv (.int (x &&& y) :: st)) : hG E μ d Q k n ρ pc lv (.int y :: .int x :: st) := fun _ _ _ _ _ _ _ _ _ _ _ _ cx H locs cells slots ls hH hS hc hs hl => lv_iand (hx_ cx) (hb_ cx) hdg  (kk _ _ _ _ _ _ _ _ _ _ _ _ cx H locs cells slots ls hH hS hc hs hl)
theorem h_idiv {x y : Int32} (hdg : decode (md_c μ) pc = .ok (.idiv, 1)) (h0 : ¬ y = 0) (kk : hG E μ d Q k n ρ (pc + 1) lv (.int (x / y) :: st)) : hG E μ d Q k n ρ pc lv (.int y :: .int x :: st) := fun _ _ _ _ _ _ _ _ _ _ _ _ cx H locs cells slots ls hH hS hc hs hl => lv_idiv (hx_ cx) (hb_ cx) hdg h0 (kk _ _ _ _ _ _ _ _ _ _ _ _ cx H locs cells slots ls hH hS hc hs hl)
theorem h_irem {x y : Int32} (hdg : decode (md_c μ) pc = .ok (.irem, 1)) (h0 : ¬ y = 0) (kk : hG E μ d Q k n ρ (pc + 1) lv (.int (x - x / y * y) :: st)) : hG E μ d Q k n ρ pc lv (.int y :: .int x :: st) := fun _ _ _ _ _ _ _ _ _ _ _ _ cx H locs cells slots ls hH hS hc hs hl => lv_irem (hx_ cx) (hb_ cx) hdg h0 (kk _ _ _ _ _ _ _ _ _ _ _ _ cx H locs cells slots ls hH hS hc hs hl)
theorem h_ishl {x y : Int32} (hdg : decode (md_c μ) pc = .ok (.ishl, 1))  (kk : hG E μ d Q k n ρ (pc + 1) lv (.int (x <<< (y &&& 31)) :: st)) : hG E μ d Q k n ρ pc lv (.int y :: .int x :: st) := fun _ _ _ _ _ _ _ _ _ _ _ _ cx H locs cells slots ls hH hS hc hs hl => lv_ishl (hx_ cx) (hb_ cx) hdg  (kk _ _ _ _ _ _ _ _ _ _ _ _ cx H locs cells slots ls hH hS hc hs hl)
theorem h_ishr {x y : Int32} (hdg : decode (md_c μ) pc = .ok (.ishr, 1))  (kk : hG E μ d Q k n ρ (pc + 1) lv (.int (x >>> (y &&& 31)) :: st)) : hG E μ d Q k n ρ pc lv (.int y :: .int x :: st) := fun _ _ _ _ _ _ _ _ _ _ _ _ cx H locs cells slots ls hH hS hc hs hl => lv_ishr (hx_ cx) (hb_ cx) hdg  (kk _ _ _ _ _ _ _ _ _ _ _ _ cx H locs cells slots ls hH hS hc hs hl)
theorem h_ineg {x : Int32} (hdg : decode (md_c μ) pc = .ok (.ineg, 1))  (kk : hG E μ d Q k n ρ (pc + 1) lv (.int (-x) :: st)) : hG E μ d Q k n ρ pc lv (.int x :: st) := fun _ _ _ _ _ _ _ _ _ _ _ _ cx H locs cells slots ls hH hS hc hs hl => lv_ineg (hx_ cx) (hb_ cx) hdg  (kk _ _ _ _ _ _ _ _ _ _ _ _ cx H locs cells slots ls hH hS hc hs hl)
theorem h_i2c {x : Int32} (hdg : decode (md_c μ) pc = .ok (.i2c, 1))  (kk : hG E μ d Q k n ρ (pc + 1) lv (.int (x.toUInt32 % 65536).toInt32 :: st)) : hG E μ d Q k n ρ pc lv (.int x :: st) := fun _ _ _ _ _ _ _ _ _ _ _ _ cx H locs cells slots ls hH hS hc hs hl => lv_i2c (hx_ cx) (hb_ cx) hdg rfl (kk _ _ _ _ _ _ _ _ _ _ _ _ cx H locs cells slots ls hH hS hc hs hl)
theorem h_i2b {x : Int32} (hdg : decode (md_c μ) pc = .ok (.i2b, 1))  (kk : hG E μ d Q k n ρ (pc + 1) lv (.int x.toInt8.toInt32 :: st)) : hG E μ d Q k n ρ pc lv (.int x :: st) := fun _ _ _ _ _ _ _ _ _ _ _ _ cx H locs cells slots ls hH hS hc hs hl => lv_i2b (hx_ cx) (hb_ cx) hdg rfl (kk _ _ _ _ _ _ _ _ _ _ _ _ cx H locs cells slots ls hH hS hc hs hl)
theorem h_dup {v : Value} (hdg : decode (md_c μ) pc = .ok (.dup, 1)) (h0 : v.category = 1) (kk : hG E μ d Q k n ρ (pc + 1) lv (v :: v :: st)) : hG E μ d Q k n ρ pc lv (v :: st) := fun _ _ _ _ _ _ _ _ _ _ _ _ cx H locs cells slots ls hH hS hc hs hl => lv_dup (hx_ cx) (hb_ cx) hdg h0 (kk _ _ _ _ _ _ _ _ _ _ _ _ cx H locs cells slots ls hH hS hc hs hl)
theorem h_dup_x1 {v w : Value} (hdg : decode (md_c μ) pc = .ok (.dup_x1, 1)) (h0 : v.category = 1) (h1 : w.category = 1) (kk : hG E μ d Q k n ρ (pc + 1) lv (v :: w :: v :: st)) : hG E μ d Q k n ρ pc lv (v :: w :: st) := fun _ _ _ _ _ _ _ _ _ _ _ _ cx H locs cells slots ls hH hS hc hs hl => lv_dup_x1 (hx_ cx) (hb_ cx) hdg h0 h1 (kk _ _ _ _ _ _ _ _ _ _ _ _ cx H locs cells slots ls hH hS hc hs hl)
theorem h_pop {v : Value} (hdg : decode (md_c μ) pc = .ok (.pop, 1)) (h0 : v.category = 1) (kk : hG E μ d Q k n ρ (pc + 1) lv (st)) : hG E μ d Q k n ρ pc lv (v :: st) := fun _ _ _ _ _ _ _ _ _ _ _ _ cx H locs cells slots ls hH hS hc hs hl => lv_pop (hx_ cx) (hb_ cx) hdg h0 (kk _ _ _ _ _ _ _ _ _ _ _ _ cx H locs cells slots ls hH hS hc hs hl)
theorem h_iconst {z : Int} (hdg : decode (md_c μ) pc = .ok (.iconst z, 1)) (v : Int32) (h0 : Int32.ofInt z = v) (kk : hG E μ d Q k n ρ (pc + 1) lv (.int v :: st)) : hG E μ d Q k n ρ pc lv (st) := fun _ _ _ _ _ _ _ _ _ _ _ _ cx H locs cells slots ls hH hS hc hs hl => lv_iconst (hx_ cx) (hb_ cx) hdg h0 (kk _ _ _ _ _ _ _ _ _ _ _ _ cx H locs cells slots ls hH hS hc hs hl)
theorem h_bipush {z : Int} (hdg : decode (md_c μ) pc = .ok (.bipush z, 2)) (v : Int32) (h0 : (Int8.ofInt z).toInt32 = v) (kk : hG E μ d Q k n ρ (pc + 2) lv (.int v :: st)) : hG E μ d Q k n ρ pc lv (st) := fun _ _ _ _ _ _ _ _ _ _ _ _ cx H locs cells slots ls hH hS hc hs hl => lv_bipush (hx_ cx) (hb_ cx) hdg h0 (kk _ _ _ _ _ _ _ _ _ _ _ _ cx H locs cells slots ls hH hS hc hs hl)
theorem h_sipush {z : Int} (hdg : decode (md_c μ) pc = .ok (.sipush z, 3)) (v : Int32) (h0 : (Int16.ofInt z).toInt32 = v) (kk : hG E μ d Q k n ρ (pc + 3) lv (.int v :: st)) : hG E μ d Q k n ρ pc lv (st) := fun _ _ _ _ _ _ _ _ _ _ _ _ cx H locs cells slots ls hH hS hc hs hl => lv_sipush (hx_ cx) (hb_ cx) hdg h0 (kk _ _ _ _ _ _ _ _ _ _ _ _ cx H locs cells slots ls hH hS hc hs hl)
theorem h_iload_n {q : Fin 4} (z : Nat) {x : Int32} (hdg : decode (md_c μ) pc = .ok (.iload_n q, 1)) (h0 : lv[z]? = some ((q : Nat), .int x)) (kk : hG E μ d Q k n ρ (pc + 1) lv (.int x :: st)) : hG E μ d Q k n ρ pc lv st := fun _ _ _ _ _ _ _ _ _ _ _ _ cx H locs cells slots ls hH hS hc hs hl => lv_iload_n (hx_ cx) (hb_ cx) hdg rfl (lv_at hl z h0) (kk _ _ _ _ _ _ _ _ _ _ _ _ cx H locs cells slots ls hH hS hc hs hl)
theorem h_iload {i : Nat} (z : Nat) {x : Int32} (hdg : decode (md_c μ) pc = .ok (.iload i, 2)) (h0 : lv[z]? = some (i, .int x)) (kk : hG E μ d Q k n ρ (pc + 2) lv (.int x :: st)) : hG E μ d Q k n ρ pc lv st := fun _ _ _ _ _ _ _ _ _ _ _ _ cx H locs cells slots ls hH hS hc hs hl => lv_iload (hx_ cx) (hb_ cx) hdg (lv_at hl z h0) (kk _ _ _ _ _ _ _ _ _ _ _ _ cx H locs cells slots ls hH hS hc hs hl)
theorem h_istore_n {q : Fin 4} {i : Nat} {x : Int32} (lv' : List (Nat × Value)) (hdg : decode (md_c μ) pc = .ok (.istore_n q, 1)) (hi : (q : Nat) = i) (h1 : i < md_n μ) (h0 : (i, Value.int x) :: lv.filter (fun q => !(q.1 == i) && !(q.1 + 1 == i && q.2.category == 2)) = lv') (kk : hG E μ d Q k n ρ (pc + 1) lv' st) : hG E μ d Q k n ρ pc lv (.int x :: st) := fun _ _ _ _ _ _ _ _ _ _ _ _ cx H locs cells slots ls hH hS hc hs hl => lv_istore_n (hx_ cx) (hb_ cx) hdg hi hl h1 h0 (fun ls hl => kk _ _ _ _ _ _ _ _ _ _ _ _ cx H locs cells slots ls hH hS hc hs hl)
theorem h_istore {i : Nat} {x : Int32} (lv' : List (Nat × Value)) (hdg : decode (md_c μ) pc = .ok (.istore i, 2)) (h1 : i < md_n μ) (h0 : (i, Value.int x) :: lv.filter (fun q => !(q.1 == i) && !(q.1 + 1 == i && q.2.category == 2)) = lv') (kk : hG E μ d Q k n ρ (pc + 2) lv' st) : hG E μ d Q k n ρ pc lv (.int x :: st) := fun _ _ _ _ _ _ _ _ _ _ _ _ cx H locs cells slots ls hH hS hc hs hl => lv_istore (hx_ cx) (hb_ cx) hdg hl h1 h0 (fun ls hl => kk _ _ _ _ _ _ _ _ _ _ _ _ cx H locs cells slots ls hH hS hc hs hl)
theorem h_aload_n {q : Fin 4} (z : Nat) {x : Nat} (hdg : decode (md_c μ) pc = .ok (.aload_n q, 1)) (h0 : lv[z]? = some ((q : Nat), .ref x)) (kk : hG E μ d Q k n ρ (pc + 1) lv (.ref x :: st)) : hG E μ d Q k n ρ pc lv st := fun _ _ _ _ _ _ _ _ _ _ _ _ cx H locs cells slots ls hH hS hc hs hl => lv_aload_n (hx_ cx) (hb_ cx) hdg rfl (lv_at hl z h0) (kk _ _ _ _ _ _ _ _ _ _ _ _ cx H locs cells slots ls hH hS hc hs hl)
theorem h_aload {i : Nat} (z : Nat) {x : Nat} (hdg : decode (md_c μ) pc = .ok (.aload i, 2)) (h0 : lv[z]? = some (i, .ref x)) (kk : hG E μ d Q k n ρ (pc + 2) lv (.ref x :: st)) : hG E μ d Q k n ρ pc lv st := fun _ _ _ _ _ _ _ _ _ _ _ _ cx H locs cells slots ls hH hS hc hs hl => lv_aload (hx_ cx) (hb_ cx) hdg (lv_at hl z h0) (kk _ _ _ _ _ _ _ _ _ _ _ _ cx H locs cells slots ls hH hS hc hs hl)
theorem h_astore_n {q : Fin 4} {i : Nat} {x : Nat} (lv' : List (Nat × Value)) (hdg : decode (md_c μ) pc = .ok (.astore_n q, 1)) (hi : (q : Nat) = i) (h1 : i < md_n μ) (h0 : (i, Value.ref x) :: lv.filter (fun q => !(q.1 == i) && !(q.1 + 1 == i && q.2.category == 2)) = lv') (kk : hG E μ d Q k n ρ (pc + 1) lv' st) : hG E μ d Q k n ρ pc lv (.ref x :: st) := fun _ _ _ _ _ _ _ _ _ _ _ _ cx H locs cells slots ls hH hS hc hs hl => lv_astore_n (hx_ cx) (hb_ cx) hdg hi hl h1 h0 (fun ls hl => kk _ _ _ _ _ _ _ _ _ _ _ _ cx H locs cells slots ls hH hS hc hs hl)
theorem h_astore {i : Nat} {x : Nat} (lv' : List (Nat × Value)) (hdg : decode (md_c μ) pc = .ok (.astore i, 2)) (h1 : i < md_n μ) (h0 : (i, Value.ref x) :: lv.filter (fun q => !(q.1 == i) && !(q.1 + 1 == i && q.2.category == 2)) = lv') (kk : hG E μ d Q k n ρ (pc + 2) lv' st) : hG E μ d Q k n ρ pc lv (.ref x :: st) := fun _ _ _ _ _ _ _ _ _ _ _ _ cx H locs cells slots ls hH hS hc hs hl => lv_astore (hx_ cx) (hb_ cx) hdg hl h1 h0 (fun ls hl => kk _ _ _ _ _ _ _ _ _ _ _ _ cx H locs cells slots ls hH hS hc hs hl)
theorem h_iinc {i : Nat} {z : Int} {x : Int32} (w : Nat) (v : Int32) (lv' : List (Nat × Value)) (hdg : decode (md_c μ) pc = .ok (.iinc i z, 3)) (hk : lv[w]? = some (i, .int x)) (hv : x + Int32.ofInt z = v) (h1 : i < md_n μ) (h0 : (i, Value.int v) :: lv.filter (fun q => !(q.1 == i) && !(q.1 + 1 == i && q.2.category == 2)) = lv') (kk : hG E μ d Q k n ρ (pc + 3) lv' st) : hG E μ d Q k n ρ pc lv st := fun _ _ _ _ _ _ _ _ _ _ _ _ cx H locs cells slots ls hH hS hc hs hl => lv_iinc (hx_ cx) (hb_ cx) hdg hl hk hv h1 h0 (fun ls hl => kk _ _ _ _ _ _ _ _ _ _ _ _ cx H locs cells slots ls hH hS hc hs hl)
theorem h_if_eq {x : Int32} {off : Int} (tgt : Nat) (hdg : decode (md_c μ) pc = .ok (.ifCond .eq off, 3)) (ht : (pc : Int) + off = (tgt : Int)) (kt : x = 0 → hG E μ d Q k n ρ tgt lv st) (kf : ¬ (x = 0) → hG E μ d Q k n ρ (pc + 3) lv st) : hG E μ d Q k n ρ pc lv (.int x :: st) := fun _ _ _ _ _ _ _ _ _ _ _ _ cx H locs cells slots ls hH hS hc hs hl => lv_if_eq (hx_ cx) (hb_ cx) hdg ht (fun h => kt h _ _ _ _ _ _ _ _ _ _ _ _ cx H locs cells slots ls hH hS hc hs hl) (fun h => kf h _ _ _ _ _ _ _ _ _ _ _ _ cx H locs cells slots ls hH hS hc hs hl)
theorem h_icmp_eq {x y : Int32} {off : Int} (tgt : Nat) (hdg : decode (md_c μ) pc = .ok (.if_icmp .eq off, 3)) (ht : (pc : Int) + off = (tgt : Int)) (kt : x = y → hG E μ d Q k n ρ tgt lv st) (kf : ¬ (x = y) → hG E μ d Q k n ρ (pc + 3) lv st) : hG E μ d Q k n ρ pc lv (.int y :: .int x :: st) := fun _ _ _ _ _ _ _ _ _ _ _ _ cx H locs cells slots ls hH hS hc hs hl => lv_icmp_eq (hx_ cx) (hb_ cx) hdg ht (fun h => kt h _ _ _ _ _ _ _ _ _ _ _ _ cx H locs cells slots ls hH hS hc hs hl) (fun h => kf h _ _ _ _ _ _ _ _ _ _ _ _ cx H locs cells slots ls hH hS hc hs hl)
theorem h_if_ne {x : Int32} {off : Int} (tgt : Nat) (hdg : decode (md_c μ) pc = .ok (.ifCond .ne off, 3)) (ht : (pc : Int) + off = (tgt : Int)) (kt : ¬ x = 0 → hG E μ d Q k n ρ tgt lv st) (kf : x = 0 → hG E μ d Q k n ρ (pc + 3) lv st) : hG E μ d Q k n ρ pc lv (.int x :: st) := fun _ _ _ _ _ _ _ _ _ _ _ _ cx H locs cells slots ls hH hS hc hs hl => lv_if_ne (hx_ cx) (hb_ cx) hdg ht (fun h => kt h _ _ _ _ _ _ _ _ _ _ _ _ cx H locs cells slots ls hH hS hc hs hl) (fun h => kf h _ _ _ _ _ _ _ _ _ _ _ _ cx H locs cells slots ls hH hS hc hs hl)
theorem h_icmp_ne {x y : Int32} {off : Int} (tgt : Nat) (hdg : decode (md_c μ) pc = .ok (.if_icmp .ne off, 3)) (ht : (pc : Int) + off = (tgt : Int)) (kt : ¬ x = y → hG E μ d Q k n ρ tgt lv st) (kf : x = y → hG E μ d Q k n ρ (pc + 3) lv st) : hG E μ d Q k n ρ pc lv (.int y :: .int x :: st) := fun _ _ _ _ _ _ _ _ _ _ _ _ cx H locs cells slots ls hH hS hc hs hl => lv_icmp_ne (hx_ cx) (hb_ cx) hdg ht (fun h => kt h _ _ _ _ _ _ _ _ _ _ _ _ cx H locs cells slots ls hH hS hc hs hl) (fun h => kf h _ _ _ _ _ _ _ _ _ _ _ _ cx H locs cells slots ls hH hS hc hs hl)
theorem h_if_lt {x : Int32} {off : Int} (tgt : Nat) (hdg : decode (md_c μ) pc = .ok (.ifCond .lt off, 3)) (ht : (pc : Int) + off = (tgt : Int)) (kt : x < 0 → hG E μ d Q k n ρ tgt lv st) (kf : ¬ (x < 0) → hG E μ d Q k n ρ (pc + 3) lv st) : hG E μ d Q k n ρ pc lv (.int x :: st) := fun _ _ _ _ _ _ _ _ _ _ _ _ cx H locs cells slots ls hH hS hc hs hl => lv_if_lt (hx_ cx) (hb_ cx) hdg ht (fun h => kt h _ _ _ _ _ _ _ _ _ _ _ _ cx H locs cells slots ls hH hS hc hs hl) (fun h => kf h _ _ _ _ _ _ _ _ _ _ _ _ cx H locs cells slots ls hH hS hc hs hl)
theorem h_icmp_lt {x y : Int32} {off : Int} (tgt : Nat) (hdg : decode (md_c μ) pc = .ok (.if_icmp .lt off, 3)) (ht : (pc : Int) + off = (tgt : Int)) (kt : x < y → hG E μ d Q k n ρ tgt lv st) (kf : ¬ (x < y) → hG E μ d Q k n ρ (pc + 3) lv st) : hG E μ d Q k n ρ pc lv (.int y :: .int x :: st) := fun _ _ _ _ _ _ _ _ _ _ _ _ cx H locs cells slots ls hH hS hc hs hl => lv_icmp_lt (hx_ cx) (hb_ cx) hdg ht (fun h => kt h _ _ _ _ _ _ _ _ _ _ _ _ cx H locs cells slots ls hH hS hc hs hl) (fun h => kf h _ _ _ _ _ _ _ _ _ _ _ _ cx H locs cells slots ls hH hS hc hs hl)
theorem h_if_ge {x : Int32} {off : Int} (tgt : Nat) (hdg : decode (md_c μ) pc = .ok (.ifCond .ge off, 3)) (ht : (pc : Int) + off = (tgt : Int)) (kt : 0 ≤ x → hG E μ d Q k n ρ tgt lv st) (kf : ¬ (0 ≤ x) → hG E μ d Q k n ρ (pc + 3) lv st) : hG E μ d Q k n ρ pc lv (.int x :: st) := fun _ _ _ _ _ _ _ _ _ _ _ _ cx H locs cells slots ls hH hS hc hs hl => lv_if_ge (hx_ cx) (hb_ cx) hdg ht (fun h => kt h _ _ _ _ _ _ _ _ _ _ _ _ cx H locs cells slots ls hH hS hc hs hl) (fun h => kf h _ _ _ _ _ _ _ _ _ _ _ _ cx H locs cells slots ls hH hS hc hs hl)
theorem h_icmp_ge {x y : Int32} {off : Int} (tgt : Nat) (hdg : decode (md_c μ) pc = .ok (.if_icmp .ge off, 3)) (ht : (pc : Int) + off = (tgt : Int)) (kt : y ≤ x → hG E μ d Q k n ρ tgt lv st) (kf : ¬ (y ≤ x) → hG E μ d Q k n ρ (pc + 3) lv st) : hG E μ d Q k n ρ pc lv (.int y :: .int x :: st) := fun _ _ _ _ _ _ _ _ _ _ _ _ cx H locs cells slots ls hH hS hc hs hl => lv_icmp_ge (hx_ cx) (hb_ cx) hdg ht (fun h => kt h _ _ _ _ _ _ _ _ _ _ _ _ cx H locs cells slots ls hH hS hc hs hl) (fun h => kf h _ _ _ _ _ _ _ _ _ _ _ _ cx H locs cells slots ls hH hS hc hs hl)
theorem h_if_gt {x : Int32} {off : Int} (tgt : Nat) (hdg : decode (md_c μ) pc = .ok (.ifCond .gt off, 3)) (ht : (pc : Int) + off = (tgt : Int)) (kt : 0 < x → hG E μ d Q k n ρ tgt lv st) (kf : ¬ (0 < x) → hG E μ d Q k n ρ (pc + 3) lv st) : hG E μ d Q k n ρ pc lv (.int x :: st) := fun _ _ _ _ _ _ _ _ _ _ _ _ cx H locs cells slots ls hH hS hc hs hl => lv_if_gt (hx_ cx) (hb_ cx) hdg ht (fun h => kt h _ _ _ _ _ _ _ _ _ _ _ _ cx H locs cells slots ls hH hS hc hs hl) (fun h => kf h _ _ _ _ _ _ _ _ _ _ _ _ cx H locs cells slots ls hH hS hc hs hl)
theorem h_icmp_gt {x y : Int32} {off : Int} (tgt : Nat) (hdg : decode (md_c μ) pc = .ok (.if_icmp .gt off, 3)) (ht : (pc : Int) + off = (tgt : Int)) (kt : y < x → hG E μ d Q k n ρ tgt lv st) (kf : ¬ (y < x) → hG E μ d Q k n ρ (pc + 3) lv st) : hG E μ d Q k n ρ pc lv (.int y :: .int x :: st) := fun _ _ _ _ _ _ _ _ _ _ _ _ cx H locs cells slots ls hH hS hc hs hl => lv_icmp_gt (hx_ cx) (hb_ cx) hdg ht (fun h => kt h _ _ _ _ _ _ _ _ _ _ _ _ cx H locs cells slots ls hH hS hc hs hl) (fun h => kf h _ _ _ _ _ _ _ _ _ _ _ _ cx H locs cells slots ls hH hS hc hs hl)
theorem h_if_le {x : Int32} {off : Int} (tgt : Nat) (hdg : decode (md_c μ) pc = .ok (.ifCond .le off, 3)) (ht : (pc : Int) + off = (tgt : Int)) (kt : x ≤ 0 → hG E μ d Q k n ρ tgt lv st) (kf : ¬ (x ≤ 0) → hG E μ d Q k n ρ (pc + 3) lv st) : hG E μ d Q k n ρ pc lv (.int x :: st) := fun _ _ _ _ _ _ _ _ _ _ _ _ cx H locs cells slots ls hH hS hc hs hl => lv_if_le (hx_ cx) (hb_ cx) hdg ht (fun h => kt h _ _ _ _ _ _ _ _ _ _ _ _ cx H locs cells slots ls hH hS hc hs hl) (fun h => kf h _ _ _ _ _ _ _ _ _ _ _ _ cx H locs cells slots ls hH hS hc hs hl)
theorem h_icmp_le {x y : Int32} {off : Int} (tgt : Nat) (hdg : decode (md_c μ) pc = .ok (.if_icmp .le off, 3)) (ht : (pc : Int) + off = (tgt : Int)) (kt : x ≤ y → hG E μ d Q k n ρ tgt lv st) (kf : ¬ (x ≤ y) → hG E μ d Q k n ρ (pc + 3) lv st) : hG E μ d Q k n ρ pc lv (.int y :: .int x :: st) := fun _ _ _ _ _ _ _ _ _ _ _ _ cx H locs cells slots ls hH hS hc hs hl => lv_icmp_le (hx_ cx) (hb_ cx) hdg ht (fun h => kt h _ _ _ _ _ _ _ _ _ _ _ _ cx H locs cells slots ls hH hS hc hs hl) (fun h => kf h _ _ _ _ _ _ _ _ _ _ _ _ cx H locs cells slots ls hH hS hc hs hl)
theorem h_goto {off : Int} (tgt : Nat) (hdg : decode (md_c μ) pc = .ok (.goto off, 3)) (ht : (pc : Int) + off = (tgt : Int)) (kk : hG E μ d Q k n ρ tgt lv st) : hG E μ d Q k n ρ pc lv st := fun _ _ _ _ _ _ _ _ _ _ _ _ cx H locs cells slots ls hH hS hc hs hl => lv_goto (hx_ cx) (hb_ cx) hdg ht (kk _ _ _ _ _ _ _ _ _ _ _ _ cx H locs cells slots ls hH hS hc hs hl)
theorem h_lv {lv' : List (Nat × Value)} (ks : List Nat) (h : lv_pick lv ks = lv') (kk : hG E μ d Q k n ρ pc lv' st) : hG E μ d Q k n ρ pc lv st := fun _ _ _ _ _ _ _ _ _ _ _ _ cx H locs cells slots ls hH hS hc hs hl => kk _ _ _ _ _ _ _ _ _ _ _ _ cx H locs cells slots ls hH hS hc hs (lv_sub hl ks h)
theorem h_room {k' n' : Nat} (h1 : k' ≤ k) (h2 : n' ≤ n) (kk : hG E μ d Q k' n' ρ pc lv st) : hG E μ d Q k n ρ pc lv st := fun _ _ _ _ _ _ _ _ _ _ _ _ cx H locs cells slots ls hH hS hc hs hl => kk _ _ _ _ _ _ _ _ _ _ _ _ cx H locs cells slots ls hH hS (by omega) (by omega) hl
theorem h_pc {pc' : Nat} (h : pc = pc') (kk : hG E μ d Q k n ρ pc' lv st) : hG E μ d Q k n ρ pc lv st := h ▸ kk
theorem h_st {ρ' : hS} (h : ρ = ρ') (kk : hG E μ d Q k n ρ' pc lv st) : hG E μ d Q k n ρ pc lv st := h ▸ kk
theorem hws_at {j : Nat} (h : j < 572) : (hws E ρ)[j]? = some (adr E ρ.2.1 j, cellE E ρ.2.1 (rS ρ.1) j) := by
  unfold hws
  rw [List.getElem?_append_left (by rw [gws_len]; exact h), gws_at h]
theorem hws_x {x : Nat × va_E} : (hws E (ρ.1, ρ.2.1, [x]))[572]? = some x := by
  unfold hws
  rw [List.getElem?_append_right (by rw [gws_len]; exact Nat.le_refl 572), gws_len]
  rfl
theorem kdB {j : Nat} (h : j = 554 ∨ j = 557) : kd j = (0, 10) := by
  rcases h with rfl | rfl <;> decide
theorem hws_b {j : Nat} (h : j = 554 ∨ j = 557) : (hws E ρ)[j]? = some (gX E + j, .inr (10, fvs E ρ.2.1 (rS ρ.1) 10 j)) := by
  rw [hws_at (by rcases h with rfl | rfl <;> decide), cellE_0 (kdB h), adr_of (by rw [kdB h]; show (0 : Nat) ≠ 7; decide)]
/-- a text's hidden part, by the place of its builder -/
def tj (τ : gT) (j : Nat) : gT1 := if j = 554 then τ.1 else τ.2
def ts (τ : gT) (j : Nat) (w : gT1) : gT := if j = 554 then (w, τ.2) else (τ.1, w)
theorem hws_t {j : Nat} (h : j = 554 ∨ j = 557) : (hws E ρ)[j + 1]? = some ((tj ρ.2.1 j).1, .inl (gar E 6, (tj ρ.2.1 j).2.1, .inl (tj ρ.2.1 j).2.2.1)) := by
  rw [hws_at (by rcases h with rfl | rfl <;> decide)]
  rcases h with rfl | rfl <;> rfl
theorem h_get {own : String} {idx kf j : Nat} (x : Value) (hf : gFl own idx 10 kf) (ho : md_o μ = own) (hj : j = 554 ∨ j = 557) (hdg : decode (md_c μ) pc = .ok (.getfield idx, 3)) (hv : fv E ρ.2.1 (rS ρ.1) 10 j kf = x) (kk : hG E μ d Q k n ρ (pc + 3) lv (x :: st)) : hG E μ d Q k n ρ pc lv (.ref (gX E + j) :: st) := by
  intro mcT msT p l e R s m args below meth c cx H locs cells slots ls hH hS hc hs hl
  have cx0 := cx
  obtain ⟨hx, hb, hml, hown, hts, hKK, -⟩ := cx0
  obtain ⟨C, T, N, ref, hc1, hk, hnf, hw, hlk, hsm⟩ := hf
  obtain ⟨hB, hP, hD⟩ := id hH
  have hfv : (fvs E ρ.2.1 (rS ρ.1) 10 j)[kf]? = some x := by rw [fvs_at (by rw [hnf]; exact hk), hv]
  exact va_get (D := E.1) (ci := 10) (v := x) hx hb hts hw (by rw [← ho]; exact hown) hKK.1 hP j (hws_b hj) hc1 kf hk (hts _ hlk) (gsame hts hsm) hfv hdg (kk _ _ _ _ _ _ _ _ _ _ _ _ cx H locs cells slots ls hH hS hc hs hl)
theorem fvB0 {τ : gT} {v : gV} {j : Nat} : fv E τ (rS v) 10 j 0 = .ref (tj τ j).1 := by
  show (if (true = true) then Value.ref (if j = 554 then τ.1.1 else τ.2.1) else Value.null) = _
  rw [if_pos rfl]
  unfold tj
  by_cases h : j = 554
  · rw [if_pos h, if_pos h]
  · rw [if_neg h, if_neg h]
theorem fvB1 {τ : gT} {v : gV} {j : Nat} : fv E τ (rS v) 10 j 1 = .int (v.1 j 1) := rfl
theorem fvB2 {τ : gT} {v : gV} {j : Nat} : fv E τ (rS v) 10 j 2 = .int (tj τ j).2.2.2 := by
  show Value.int (if j = 554 then τ.1.2.2.2 else τ.2.2.2.2) = _
  unfold tj
  by_cases h : j = 554
  · rw [if_pos h, if_pos h]
  · rw [if_neg h, if_neg h]
theorem fvB3 {τ : gT} {v : gV} {j : Nat} : fv E τ (rS v) 10 j 3 = .int (v.1 j 3) := rfl
/-- a store into a builder's field: the world behind it, as a list -/
theorem h_putL {own : String} {idx kf j : Nat} {ty : FieldType} {x : Value} (hf : gFq own idx 10 kf ty false) (ho : md_o μ = own) (hj : j = 554 ∨ j = 557) (hn : narrow ty x = x) (hfit : fits ty x = true) (hdg : decode (md_c μ) pc = .ok (.putfield idx, 3)) (ρ' : hS)
    (hP' : ∀ H1 : Heap, va_P E.1 gcl ((hws E ρ).set j (gX E + j, .inr (10, (fvs E ρ.2.1 (rS ρ.1) 10 j).set kf x))) H1 → va_P E.1 gcl (hws E ρ') H1) (hD' : va_D (gA E) ((hws E ρ).set j (gX E + j, .inr (10, (fvs E ρ.2.1 (rS ρ.1) 10 j).set kf x))) → va_D (gA E) (hws E ρ')) (kk : hG E μ d Q k n ρ' (pc + 3) lv st) : hG E μ d Q k n ρ pc lv (x :: .ref (gX E + j) :: st) := by
  intro mcT msT p l e R s m args below meth c cx H locs cells slots ls hH hS hc hs hl
  have cx0 := cx
  obtain ⟨hx, hb, hml, hown, hts, hKK, hR, hB, -⟩ := cx0
  obtain ⟨C, T, N, ref, ty0, hc1, hk, hnf, hw, hlk, hsm, hty, hnm, hfin, -, hd⟩ := hf
  obtain ⟨hBB, hP, hD⟩ := id hH
  refine va_put2 (D := E.1) (ci := 10) (v := x) hx hb hts hw ty0 hty hnm (by rw [← ho]; exact hown) hKK.1 hP hD hS j (hws_b hj) hc1 kf hk (hts _ hlk) (gsame hts hsm) (Or.inl hfin) hd hn hfit (by rw [fvs_len, hnf]; exact hk) hdg (fun H1 locs1 hz1 hP1 hD1 hS1 => ?_)
  exact kk _ _ _ _ _ _ _ _ _ _ _ _ cx H1 locs1 cells slots ls ⟨gB_S hB hS1, hP' H1 hP1, hD' hD1⟩ hS1 hc hs hl
/-- two worlds are one, cell by cell -/
theorem hws_eq {w : va_W} {ρ' : hS} (hl : w.length = (hws E ρ').length) (h : ∀ i, i < 572 → w[i]? = some (adr E ρ'.2.1 i, cellE E ρ'.2.1 (rS ρ'.1) i)) (h2 : ∀ i, 572 ≤ i → w[i]? = (hws E ρ')[i]?) : w = hws E ρ' := by
  apply List.ext_getElem?
  intro i
  by_cases hi : i < 572
  · rw [h i hi, hws_at hi]
  · exact h2 i (Nat.le_of_not_lt hi)
theorem hws_len : (hws E ρ).length = 572 + ρ.2.2.length := by
  unfold hws
  rw [List.length_append, gws_len]
theorem hws_set {ρ' : hS} {j : Nat} {x : va_E} (hX : ρ'.2.2 = ρ.2.2) (hj : j < 572) (ha : ∀ i, adr E ρ'.2.1 i = adr E ρ.2.1 i) (hx : cellE E ρ'.2.1 (rS ρ'.1) j = x) (ho : ∀ i, i ≠ j → cellE E ρ'.2.1 (rS ρ'.1) i = cellE E ρ.2.1 (rS ρ.1) i) : (hws E ρ).set j (adr E ρ.2.1 j, x) = hws E ρ' := by
  refine hws_eq (by rw [List.length_set, hws_len, hws_len, hX]) (fun i hi => ?_) (fun i hi => ?_)
  · rw [List.getElem?_set, hws_len]
    by_cases e : j = i
    · subst e
      rw [if_pos rfl, if_pos (by omega), ha, hx]
    · rw [if_neg e, hws_at hi, ha, ho i (Ne.symm e)]
  · rw [List.getElem?_set, if_neg (by omega)]
    unfold hws
    rw [List.getElem?_append_right (by rw [gws_len]; exact hi), List.getElem?_append_right (by rw [gws_len]; exact hi), gws_len, gws_len, hX]
theorem cellE_not10 {τ τ' : gT} {σ : gS} {i : Nat} (h4 : i ≠ 554) (h5 : i ≠ 555) (h7 : i ≠ 557) (h8 : i ≠ 558) : cellE E τ' σ i = cellE E τ σ i := by
  have k1 : (kd i).2 ≠ 10 ∨ (kd i).1 ≠ 0 := by
    by_cases hi : i < 572
    · exact (by decide +kernel : ∀ i, i < 572 → i ≠ 554 → i ≠ 557 → ((kd i).2 ≠ 10 ∨ (kd i).1 ≠ 0)) i hi h4 h7
    · right
      unfold kd
      rw [if_neg (by omega), if_neg (by omega), if_neg (by omega), if_neg (by omega), if_neg (by omega), List.getD_eq_getElem?_getD, List.getElem?_eq_none (by show 19 ≤ i - 553; omega)]
      decide
  have k2 : (kd i).1 < 7 := by
    by_cases hi : i < 572
    · exact (by decide +kernel : ∀ i, i < 572 → i ≠ 555 → i ≠ 558 → (kd i).1 < 7) i hi h5 h8
    · unfold kd
      rw [if_neg (by omega), if_neg (by omega), if_neg (by omega), if_neg (by omega), if_neg (by omega), List.getD_eq_getElem?_getD, List.getElem?_eq_none (by show 19 ≤ i - 553; omega)]
      decide
  have hfv : (kd i).2 ≠ 10 → fvs E τ' σ (kd i).2 i = fvs E τ σ (kd i).2 i := by
    intro h
    unfold fvs
    congr 1
    funext q
    have hc : ∀ c q, c ≠ 10 → fcode c q ≠ 1001 ∧ fcode c q ≠ 1002 := by
      intro c q h
      by_cases hc : c < 11
      · by_cases hq : q < 21
        · exact (by decide +kernel : ∀ c, c < 11 → ∀ q, q < 21 → c ≠ 10 → (fcode c q ≠ 1001 ∧ fcode c q ≠ 1002)) c hc q hq h
        · have e : fcode c q = 0 := by
            unfold fcode
            rw [List.getD_eq_getElem?_getD, List.getElem?_eq_none]
            · rfl
            · have := (by decide : ∀ c, c < 11 → (fqL.getD c []).length ≤ 21) c hc
              omega
          rw [e]
          decide
      · have e : fcode c q = 0 := by
          unfold fcode
          rw [List.getD_eq_getElem?_getD (l := fqL), List.getElem?_eq_none (by show 11 ≤ c; omega)]
          rfl
        rw [e]
        decide
    have := hc (kd i).2 q h
    unfold fv
    rw [if_neg this.1, if_neg this.2, if_neg this.1, if_neg this.2]
  unfold cellE
  rcases k1 with h | h
  · rw [hfv h]
    repeat' split
    all_goals first | rfl | omega
  · rw [if_neg h, if_neg h]
    repeat' split
    all_goals first | rfl | omega
end HID
