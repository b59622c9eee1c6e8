/-! more rows: a member of a class with entries in the machine, wide constants, tables of handlers -/
section MORE
def gqA (E : gE) (Q : gO → gS → Prop) (v : gV) (x : Nat) : Prop := Q (.inl (some (.ref (gX E + x)))) (rS v)
def gqDV (Q : gO → gS → Prop) (r : UInt64 × gV) : Prop := Q (.inl (some (.double r.1))) (rS r.2)
def gqFV (Q : gO → gS → Prop) (r : UInt32 × gV) : Prop := Q (.inl (some (.float r.1))) (rS r.2)
def gqTDV (Q : gO → gS → Prop) (r : (UInt64 ⊕ String) × gV) : Prop := Q (gOd r.1) (rS r.2)
def gqTFV (Q : gO → gS → Prop) (r : (UInt32 ⊕ String) × gV) : Prop := Q (gOf r.1) (rS r.2)
theorem vx_ofWF {l : Launch} {y : MethodName} {ws ws' : List Cond} {rm : Room} {Pc : Array Value → State → Prop} {Qc : Array Value → State → Outcome → State → Prop} {XC : String → State → State → Prop} {mc ms : Nat} {free : Addr → Prop} {cc : ByteArray} {maxL : Nat} {ret : Option FieldType}
    (hy : plainFor y = true) (hw : ws = Cond.code y cc maxL ret :: ws')
    (body : ∀ p e s m args below meth c s₁, BodyLoose p l y (headSpec ws rm) cc maxL ret e s m args below meth c s₁ → c.maxLocals = maxL → (∀ x ∈ c.exceptionTable.toList, False) → Pc args s →
      W p l e (headSpec ws rm).room s m args below meth c s.heap [] 0 0 (vx_MQ below Qc XC args s mc ms free) (entryFrame m args maxL)) : vx_Met l y ws rm Pc Qc XC mc ms free := by
  refine MetFree.of_bodySF (code := cc) (maxLocals := maxL) (ret := ret) hy ?_ ?_
  · intro args s m h hn
    obtain ⟨meth, c, h1, h2, h3, h4, h5, h6, -, -⟩ := Cond.code_spec hn (atoms_spec (ws := ws) h _ (by rw [hw]; exact List.mem_cons_self))
    exact ⟨meth, c, h1, h2, h3, h4, h5, h6⟩
  · intro p e s m args below meth c s₁ B hml hP _
    have hh0 : s₁.heap = s.heap := by rw [B.state]; rfl
    have ht : ∀ x ∈ c.exceptionTable.toList, False := by
      obtain ⟨meth9, c9, h1, h2, -, -, -, -, h7, -⟩ := Cond.code_spec B.named (atoms_spec (ws := ws) B.pre _ (by rw [hw]; exact List.mem_cons_self))
      cases Option.some.inj (h1.symm.trans B.method)
      cases Option.some.inj (h2.symm.trans (Stand.of_body B).code)
      intro x hx
      rw [Array.isEmpty_iff.mp h7] at hx
      cases hx
    obtain ⟨t, a1, o, b1, b2, b3⟩ := body p e s m args below meth c s₁ B hml ht hP s₁ hh0 (Stand.of_body B)
    exact ⟨t, o, a1, b1, b2, b3⟩
variable {E : gE} {μ : gMd} {d : Nat} {Q : gO → gS → Prop} {k n : Nat} {σ : gS} {v : gV} {pc : Nat} {lv : List (Nat × Value)} {st : List Value}
def gOkF (μ : gMd) : Prop := plainFor (md_y μ) = true ∧ (md_y μ).cls = md_o μ ∧ md_l μ = false
theorem CT.ofF {mc ms : Nat} {As : List Value} (h0 : gOkF μ) (hh : md_h μ = []) (hlen : (lg_sl As).length ≤ md_n μ) (body : gG E μ d Q mc ms σ 0 (lv_args 0 As) []) : CT E μ d mc ms As σ Q := by
  intro l hl0
  refine vx_ofWF (cc := md_c μ) (maxL := md_n μ) (ret := md_r μ) h0.1 (by rw [gcw_plain hh]) ?_
  intro p e s m args below meth c s₁ B hml htab hv
  obtain ⟨rfl, hKK, hH⟩ := hv
  have hts := atoms_spec (ws := gcw μ :: wA) B.pre
  have hown : s.vm.findClass (md_o μ) = some m.cls := by rw [← h0.2.1]; exact findClass_of_methodNamed B.named
  have hin := (name_of_methodNamed B.named B.method).1
  rw [lg_entry_eq]
  refine body mc ms p l e _ s m _ below meth c _ ⟨B.exec, B.bytes, hml, hown, fun w hw => hts w (List.mem_cons_of_mem _ hw), hKK, ⟨Nat.le_refl _, Nat.le_refl _, rfl, rfl⟩, hH.1, hl0, B.notSynchronized, ?_, fun _ => rfl, gret_of B.exec B.bytes B.returns B.notSynchronized, fun h => hin.trans h⟩ s.heap [] 0 0 _ hH va_S.rf (by omega) (by omega) (lv_entry As hlen)
  rw [hh]
  cases ht : c.exceptionTable.toList with
  | nil => rfl
  | cons x xs => exact (htab x (by rw [ht]; exact List.mem_cons_self)).elim
theorem r_ldcw {own : String} {idx : Nat} (x : Int32) (hs : Cond.constant own idx x ∈ wA) (ho : md_o μ = own) (hdg : decode (md_c μ) pc = .ok (.ldc_w idx, 3)) (kk : gG E μ d Q k n (rS v) (pc + 3) lv (.int x :: st)) : gG E μ d Q k n (rS v) pc lv st := by
  intro _ _ _ _ _ _ _ _ _ _ _ _ _ cx H locs cells slots ls hH hS hc hss hl
  have cx0 := cx
  obtain ⟨hx, hb, hml, hown, hts, -⟩ := cx0
  exact lv_ldcw hx hb (by rw [← ho]; exact hown) (hts _ hs) hdg (kk _ _ _ _ _ _ _ _ _ _ _ _ _ cx H locs cells slots ls hH hS hc hss hl)
theorem g_dconst0 (hdg : decode (md_c μ) pc = .ok (.dconst 0, 1)) (kk : gG E μ d Q k n σ (pc + 1) lv (.double FP.dconst0 :: st)) : gG E μ d Q k n σ pc lv st := fun _ _ _ _ _ _ _ _ _ _ _ _ _ cx H locs cells slots ls hH hS hc hs hl => lv_dconst0 (gx cx) (gb cx) hdg (kk _ _ _ _ _ _ _ _ _ _ _ _ _ cx H locs cells slots ls hH hS hc hs hl)
theorem g_fconst0 (hdg : decode (md_c μ) pc = .ok (.fconst 0, 1)) (kk : gG E μ d Q k n σ (pc + 1) lv (.float FP.fconst0 :: st)) : gG E μ d Q k n σ pc lv st := fun _ _ _ _ _ _ _ _ _ _ _ _ _ cx H locs cells slots ls hH hS hc hs hl => lv_fconst0 (gx cx) (gb cx) hdg (kk _ _ _ _ _ _ _ _ _ _ _ _ _ cx H locs cells slots ls hH hS hc hs hl)
theorem gnc {s : State} {En nz : String} (h : (En, nz) ∈ gNc) (hK : gKK E s) : va_Nc En nz s := hK.2.2.2.2.2.2.2.1 _ h
theorem cqn {w : Option Value} : ∀ (En : String) (σ' : gS), ¬ Cq (.inl w) v (.inr En) σ' := by
  rintro En σ' ⟨h, -⟩
  cases h
end MORE
