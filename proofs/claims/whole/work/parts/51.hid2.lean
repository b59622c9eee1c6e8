/-! the machine with the hidden parts shown: arrays of bytes, statics, calls -/
section HID2
variable {E : gE} {μ : gMd} {d : Nat} {Q : Option Value → hS → Prop} {k n : Nat} {ρ : hS} {pc : Nat} {lv : List (Nat × Value)} {st : List Value}
theorem h_bald {i : Int32} {q0 a N : Nat} {f : Nat → Int32} (ha : (hws E ρ)[q0]? = some (a, .inl (gar E 6, N, .inl f))) (hi : vp_in i N) (hdg : decode (md_c μ) pc = .ok (.baload, 1)) (kk : hG E μ d Q k n ρ (pc + 1) lv (.int (f i.toNatClampNeg) :: st)) : hG E μ d Q k n ρ pc lv (.int i :: .ref a :: st) := by
  intro mcT msT p l e R s m args below meth c cx H locs cells slots ls hH hS hc hs hl
  have cx0 := cx
  obtain ⟨hx, hb, hml, hown, hts, hKK, -⟩ := cx0
  obtain ⟨hB, hP, hD⟩ := id hH
  exact va_bald (D := E.1) hx hb hKK.1 hP q0 6 ha rfl hi hdg (kk _ _ _ _ _ _ _ _ _ _ _ _ cx H locs cells slots ls hH hS hc hs hl)
theorem h_bast {i x : Int32} {q0 a N : Nat} {f : Nat → Int32} (ρ' : hS) (ha : (hws E ρ)[q0]? = some (a, .inl (gar E 6, N, .inl f))) (hi : vp_in i N) (hset : (hws E ρ).set q0 (a, .inl (gar E 6, N, .inl (upd f i.toNatClampNeg (vp_nar .byte x)))) = hws E ρ') (hdg : decode (md_c μ) pc = .ok (.bastore, 1)) (kk : hG E μ d Q k n ρ' (pc + 1) lv st) : hG E μ d Q k n ρ pc lv (.int x :: .int i :: .ref a :: st) := by
  intro mcT msT p l e R s m args below meth c cx H locs cells slots ls hH hS hc hs hl
  have cx0 := cx
  obtain ⟨hx, hb, hml, hown, hts, hKK, hR, hB, -⟩ := cx0
  obtain ⟨hBB, hP, hD⟩ := id hH
  refine va_bast (D := E.1) hx hb hKK.1 hP hD hS q0 6 ha rfl hi hdg (fun H1 locs1 hP1 hD1 hS1 => ?_)
  rw [hset] at hP1 hD1
  exact kk _ _ _ _ _ _ _ _ _ _ _ _ cx H1 locs1 cells slots ls ⟨gB_S hB hS1, hP1, hD1⟩ hS1 hc hs hl
theorem h_alen {q0 a N : Nat} {f : Nat → Int32} (v : Int32) (ha : (hws E ρ)[q0]? = some (a, .inl (gar E 6, N, .inl f))) (hv : Int32.ofNat N = v) (hdg : decode (md_c μ) pc = .ok (.arraylength, 1)) (kk : hG E μ d Q k n ρ (pc + 1) lv (.int v :: st)) : hG E μ d Q k n ρ pc lv (.ref a :: st) := by
  intro mcT msT p l e R s m args below meth c cx H locs cells slots ls hH hS hc hs hl
  have cx0 := cx
  obtain ⟨hx, hb, hml, hown, hts, hKK, -⟩ := cx0
  obtain ⟨hB, hP, hD⟩ := id hH
  exact va_alen (D := E.1) hx hb hKK.1 hP q0 6 ha rfl hv hdg (kk _ _ _ _ _ _ _ _ _ _ _ _ cx H locs cells slots ls hH hS hc hs hl)
theorem gar6 {s : State} {cA : ClassId} {tys : List (ClassId × FieldType)} (hK : va_K E.1 gcl (gtys E) s) (hK' : va_K E.1 gcl (tys ++ [(cA, .byte)]) s) : cA = gar E 6 := by
  have h1 : s.vm.findClass ("[" ++ FieldType.byte.toString) = some (gar E 6) := (hK.2 6 (gar E 6, .byte) rfl).2
  have h2 : s.vm.findClass ("[" ++ FieldType.byte.toString) = some cA := (hK'.2 tys.length (cA, .byte) (by rw [List.getElem?_append_right (Nat.le_refl _), Nat.sub_self]; rfl)).2
  exact Option.some.inj (h2.symm.trans h1)
theorem h_newb {N : Nat} {x : Int32} (hx0 : x = nI N) (hN : N ≤ 65536) (hk : 1 ≤ k) (hn : N ≤ n) (hw : Cond.arrayClass .byte ∈ wA) (hX : ρ.2.2 = []) (hdg : decode (md_c μ) pc = .ok (.newarray .byte, 2)) (kk : ∀ q : Nat, hG E μ d Q (k - 1) (n - N) (ρ.1, ρ.2.1, [(q, .inl (gar E 6, N, .inl (fun _ => 0)))]) (pc + 2) lv (.ref q :: st)) : hG E μ d Q k n ρ pc lv (.int x :: st) := by
  subst hx0
  intro mcT msT p l e R s m args below meth c cx H locs cells slots ls hH hS hc hs hl
  have cx0 := cx
  obtain ⟨hx, hb, hml, hown, hts, hKK, hR, hB, -⟩ := cx0
  obtain ⟨hBB, hP, hD⟩ := id hH
  refine va_newa (D := E.1) (tys := gtys E) (ws := hws E ρ) (A := gA E) (H0 := s.heap) (atype := .byte) (ty := .byte) (N' := N) (a0 := (N, .inl (fun _ => 0))) hx hb (hts _ hw) rfl hKK.1 hP hD hS (fun q hq => Nat.le_trans hB.1 hq) (fun cA => rfl) (nI_pos (by omega)) (nI_clamp (by omega)) (by show N * 1 ≤ 536870912; omega) (by rw [hR.2.2.1]; omega) (by rw [hR.2.2.2]; omega) hdg (fun q cA H1 hK1 hP1 hD1 hS1 => ?_)
  have e := gar6 hKK.1 hK1
  subst e
  have e2 : hws E ρ ++ [(q, .inl (gar E 6, N, .inl (fun _ => 0)))] = hws E (ρ.1, ρ.2.1, [(q, .inl (gar E 6, N, .inl (fun _ => 0)))]) := by
    unfold hws
    rw [hX, List.append_nil]
  rw [e2] at hP1 hD1
  exact kk q _ _ _ _ _ _ _ _ _ _ _ _ cx H1 locs (cells + 1) (slots + N) ls ⟨gB_S hB hS1, hP1, hD1⟩ hS1 (by omega) (by omega) hl
theorem h_copyb {own : String} {idx : Nat} (hw : Cond.methodLink own idx arraycopyName ∈ wA ∧ Cond.native arraycopyName ∈ wA ∧ Cond.static arraycopyName ∈ wA ∧ Cond.initialized "java/lang/System" ∈ wA) (ho : md_o μ = own) {q0 q1 a0 a1 N0 N1 : Nat} {f g : Nat → Int32} (ρ' : hS) (ha0 : (hws E ρ)[q0]? = some (a0, .inl (gar E 6, N0, .inl f))) (ha1 : (hws E ρ)[q1]? = some (a1, .inl (gar E 6, N1, .inl g))) {x : Int32} (h3 : ¬ x < 0) (h4 : x.toNatClampNeg ≤ N0) (h5 : x.toNatClampNeg ≤ N1) (hfit : sb_Fit f) (hset : (hws E ρ).set q1 (a1, .inl (gar E 6, N1, .inl (va_cpy f g 0 0 x.toNatClampNeg))) = hws E ρ') (hcat : (st.map fun v => v.category).sum ≤ 8) (hd : 2 ≤ d) (hdg : decode (md_c μ) pc = .ok (.invokestatic idx, 3)) (kk : hG E μ d Q k n ρ' (pc + 3) lv st) : hG E μ d Q k n ρ pc lv (.int x :: .int 0 :: .ref a1 :: .int 0 :: .ref a0 :: st) := by
  intro mcT msT p l e R s m args below meth c cx H locs cells slots ls hH hS hc hs hl
  have cx0 := cx
  obtain ⟨hx, hb, hml, hown, hts, hKK, hR, hB, -⟩ := cx0
  obtain ⟨hBB, hP, hD⟩ := id hH
  have hww : nativeFrameWords "java/lang/System" "arraycopy" 5 ≤ 60 := by decide +kernel
  refine va_copyi (D := E.1) (ty := .byte) hx hb (by rw [hml, hl.1]) (by rw [← ho]; exact hown) (hts _ hw.1) (hts _ hw.2.1) (hts _ hw.2.2.1) (hts _ hw.2.2.2) hKK.1 hP hD hS q0 q1 6 6 ha0 ha1 rfl rfl rfl (by decide) (by decide) h3 (by rw [sb_cl0]; omega) (by rw [sb_cl0]; omega) (fun _ _ => hfit _) (by omega) (by omega) hdg (fun H1 locs1 hP1 hD1 hS1 => ?_)
  rw [sb_cl0, hset] at hP1 hD1
  exact kk _ _ _ _ _ _ _ _ _ _ _ _ cx H1 locs1 cells slots ls ⟨gB_S hB hS1, hP1, hD1⟩ hS1 hc hs hl
theorem h_mmin {own : String} {idx : Nat} {x y : Int32} (hs : gMw own idx Lib.Math.min.name Lib.Math.min.code) (ho : md_o μ = own) (hcat : (st.map fun v => v.category).sum ≤ 8) (hd : 1 ≤ d) (hdg : decode (md_c μ) pc = .ok (.invokestatic idx, 3)) (kk : hG E μ d Q k n ρ (pc + 3) lv (.int (if y < x then y else x) :: st)) : hG E μ d Q k n ρ pc lv (.int y :: .int x :: st) := by
  intro mcT msT p l e R s m args below meth c cx H locs cells slots ls hH hS hc hss hl
  have cx0 := cx
  obtain ⟨hx, hb, hml, hown, hts, hKK, hR, -⟩ := cx0
  exact va_mmin hx hb (by rw [hml, hl.1]) (by rw [← ho]; exact hown) (hts _ hs.1) (hts _ hs.2.1) (hts _ hs.2.2.1) (hts _ hs.2.2.2) (by omega) (by omega) (by rw [hR.2.2.1]; omega) (by rw [hR.2.2.2]; omega) hdg (kk _ _ _ _ _ _ _ _ _ _ _ _ cx H locs cells slots ls hH hS hc hss hl)
theorem h_mmax {own : String} {idx : Nat} {x y : Int32} (hs : gMw own idx Lib.Math.max.name Lib.Math.max.code) (ho : md_o μ = own) (hcat : (st.map fun v => v.category).sum ≤ 8) (hd : 1 ≤ d) (hdg : decode (md_c μ) pc = .ok (.invokestatic idx, 3)) (kk : hG E μ d Q k n ρ (pc + 3) lv (.int (if x < y then y else x) :: st)) : hG E μ d Q k n ρ pc lv (.int y :: .int x :: st) := by
  intro mcT msT p l e R s m args below meth c cx H locs cells slots ls hH hS hc hss hl
  have cx0 := cx
  obtain ⟨hx, hb, hml, hown, hts, hKK, hR, -⟩ := cx0
  exact va_mmax hx hb (by rw [hml, hl.1]) (by rw [← ho]; exact hown) (hts _ hs.1) (hts _ hs.2.1) (hts _ hs.2.2.1) (hts _ hs.2.2.2) (by omega) (by omega) (by rw [hR.2.2.1]; omega) (by rw [hR.2.2.2]; omega) hdg (kk _ _ _ _ _ _ _ _ _ _ _ _ cx H locs cells slots ls hH hS hc hss hl)
theorem h_ldc {own : String} {idx : Nat} (x : Int32) (hs : Cond.constant own idx x ∈ wA) (ho : md_o μ = own) (hdg : decode (md_c μ) pc = .ok (.ldc idx, 2)) (kk : hG E μ d Q k n ρ (pc + 2) lv (.int x :: st)) : hG E μ d Q k n ρ pc lv st := by
  intro mcT msT p l e R s m args below meth c cx H locs cells slots ls hH hS hc hss hl
  have cx0 := cx
  obtain ⟨hx, hb, hml, hown, hts, -⟩ := cx0
  exact lv_ldc hx hb (by rw [← ho]; exact hown) (hts _ hs) hdg (kk _ _ _ _ _ _ _ _ _ _ _ _ cx H locs cells slots ls hH hS hc hss hl)
/-- a static's value, out of what lies before the world -/
theorem h_gets {own : String} {idx : Nat} {C nm de : String} {x : Value} (hZ : ∀ s, gKK E s → va_Z C nm de x (gA E) s (gHb E)) (hlk : Cond.fieldLink own idx C nm de ∈ wA) (ho : md_o μ = own) (hdg : decode (md_c μ) pc = .ok (.getstatic idx, 3)) (kk : hG E μ d Q k n ρ (pc + 3) lv (x :: st)) : hG E μ d Q k n ρ pc lv st := by
  intro mcT msT p l e R s m args below meth c cx H locs cells slots ls hH hS hc hss hl
  have cx0 := cx
  obtain ⟨hx, hb, hml, hown, hts, hKK, hR, hB, -⟩ := cx0
  have hX := hKK.2.2.2.2.2.2.1
  exact va_gets hx hb ((hZ s hKK).kept (fun a ha _ => hB.2 a (by rw [← hX]; exact ha))) hS (by rw [← ho]; exact hown) (hts _ hlk) (fun x h => h) hdg (kk _ _ _ _ _ _ _ _ _ _ _ _ cx H locs cells slots ls hH hS hc hss hl)
/-- .. null or some reference -/
theorem h_getsq {own : String} {idx : Nat} {C nm de : String} (hZ : ∀ s, gKK E s → va_Zq C nm de (gA E) s (gHb E)) (hlk : Cond.fieldLink own idx C nm de ∈ wA) (ho : md_o μ = own) (hdg : decode (md_c μ) pc = .ok (.getstatic idx, 3)) (kk : ∀ x : Value, x.category = 1 → hG E μ d Q k n ρ (pc + 3) lv (x :: st)) : hG E μ d Q k n ρ pc lv st := by
  intro mcT msT p l e R s m args below meth c cx H locs cells slots ls hH hS hc hss hl
  have cx0 := cx
  obtain ⟨hx, hb, hml, hown, hts, hKK, hR, hB, -⟩ := cx0
  have hX := hKK.2.2.2.2.2.2.1
  rcases hZ s hKK with h | ⟨t, h⟩
  · exact va_gets hx hb (h.kept (fun a ha _ => hB.2 a (by rw [← hX]; exact ha))) hS (by rw [← ho]; exact hown) (hts _ hlk) (fun x h => h) hdg (kk _ rfl _ _ _ _ _ _ _ _ _ _ _ _ cx H locs cells slots ls hH hS hc hss hl)
  · exact va_gets hx hb (h.kept (fun a ha _ => hB.2 a (by rw [← hX]; exact ha))) hS (by rw [← ho]; exact hown) (hts _ hlk) (fun x h => h) hdg (kk _ rfl _ _ _ _ _ _ _ _ _ _ _ _ cx H locs cells slots ls hH hS hc hss hl)
/-- a byte out of a table before the world -/
theorem h_tb {i : Int32} {t N : Nat} {f : Nat → Value} (v : Value) (hT : ∀ s, gKK E s → va_T .byte t N f (gA E) s (gHb E)) (hi : vp_in i N) (hv : f i.toNatClampNeg = v) (hdg : decode (md_c μ) pc = .ok (.baload, 1)) (kk : hG E μ d Q k n ρ (pc + 1) lv (v :: st)) : hG E μ d Q k n ρ pc lv (.int i :: .ref t :: st) := by
  intro mcT msT p l e R s m args below meth c cx H locs cells slots ls hH hS hc hss hl
  have cx0 := cx
  obtain ⟨hx, hb, hml, hown, hts, hKK, hR, hB, -⟩ := cx0
  have hX := hKK.2.2.2.2.2.2.1
  exact va_tb hx hb ((hT s hKK).kept (fun a ha _ => hB.2 a (by rw [← hX]; exact ha))) hS hi hv hdg (kk _ _ _ _ _ _ _ _ _ _ _ _ cx H locs cells slots ls hH hS hc hss hl)
theorem h_run {mc ms : Nat} {Q' : Option Value → hS → Prop} {rest : List Value} (hk : mc ≤ k) (hn : ms ≤ n)
    (hr : ∀ (mcT msT : Nat) (p : Program) (l : Launch) (e : Env) (R : Room) (s : State) (m : MethodId) (args : Array Value) (below : List Frame) (meth : Method) (c : Code), hCx E μ d mcT msT p l e R s m args below meth c → ∀ (H : Heap) (locs : List Loc) (cells slots : Nat) (ls : Array Slot), hHR E ρ H → cells + k ≤ mcT → slots + n ≤ msT → lv_has ls (md_n μ) lv → ∃ a : Array Value, va_Run p l e R s m args below meth c H locs cells slots mc ms (F0 m pc ls st) rest (hQC E Q' a) (gA E))
    (kk : ∀ (v : Option Value) (ρ' : hS), Q' v ρ' → hG E μ d Q (k - mc) (n - ms) ρ' (pc + 3) lv (v.toList ++ rest)) : hG E μ d Q k n ρ pc lv st := by
  intro mcT msT p l e R s m args below meth c cx H locs cells slots ls hH hS hc hs hl T hT X
  obtain ⟨a, hr⟩ := hr mcT msT p l e R s m args below meth c cx H locs cells slots ls hH hc hs hl
  obtain ⟨v, st₀, t, T', L, h0, X', hL, e1, e2, ⟨v', ρ', hv, hq, hh, hF⟩, st1⟩ := hr T hT X
  cases hv
  obtain ⟨k1, k2, k3⟩ := vx_keep h0 e1 hS (fun q _ h => h) (fun q h => h) hL hF
  obtain ⟨t2, a1, b1⟩ := kk v ρ' hq mcT msT p l e R s m args below meth c cx T'.heap (locs ++ L) (cells + mc) (slots + ms) ls (by rw [e1]; exact hh) k3 (by omega) (by omega) hl T' rfl X'
  exact ⟨t2, st1 t2 a1, b1⟩
theorem hPc_blind (E : gE) (As : List Value) (ρ : hS) : FrameBlind (hPc E As ρ) := fun a U g mk h => ⟨h.1, gKK.moved (s := U) (U := U.calling g mk a) (State.WarmedH.refl U) h.2.1, h.2.2⟩
theorem h_callS {own : String} {idx nA d' mc ms : Nat} {μ' : gMd} {As rest : List Value} {Q' : Option Value → hS → Prop} (hs : gSS own idx μ' nA) (ho : md_o μ = own) (hm : HC E μ' d' mc ms As ρ Q') (hst : st = As.reverse ++ rest) (hnA : As.length = nA) (hcat : (rest.map fun v => v.category).sum ≤ 8) (hd : d' + 1 ≤ d) (hk : mc ≤ k) (hn : ms ≤ n) (hdg : decode (md_c μ) pc = .ok (.invokestatic idx, 3))
    (kk : ∀ (v : Option Value) (ρ' : hS), Q' v ρ' → hG E μ d Q (k - mc) (n - ms) ρ' (pc + 3) lv (v.toList ++ rest)) : hG E μ d Q k n ρ pc lv st := by
  refine h_run hk hn (fun mcT msT p l e R s m args below meth c cx H locs cells slots ls hH hc hss hl => ?_) kk
  obtain ⟨hx, hb, hml, hown, hts, hKK, hR, hB, -⟩ := cx
  obtain ⟨hh, hw, hcw, hnm, hn40⟩ := hs
  have hT : GoodIn wA (va_wsS own idx (md_y μ') (gcw μ' :: wA)) := good_cat hw hcw
  exact ⟨_, va_runS (g := F0 m pc ls st) (nL := md_n μ) ⟨hx, hb, hml, by rw [← ho]; exact hown, hts⟩ (hm l) (va_cwS nA hts hT (by rw [gcw_plain hh]) rfl rfl hnm (groom ⟨hR.1, hR.2.1⟩ hd hn40)) ⟨hPc_blind _ _ _, fun U hU hW => ⟨rfl, hKK.moved hW, by rw [hU]; exact hH⟩⟩ rfl hnA hl.1 hst (lv_room hcat) hdg ⟨by rw [hR.2.2.1]; omega, by rw [hR.2.2.2]; omega⟩⟩
/-- a method of the builder's own class above, from inside -/
theorem h_callU {own : String} {idx j nA d' mc ms : Nat} {μ' : gMd} {As rest : List Value} {Q' : Option Value → hS → Prop} (hs : gSU own idx 10 μ' nA) (ho : md_o μ = own) (hm : HC E μ' d' mc ms (.ref (gX E + j) :: As) ρ Q') (hj : j = 554 ∨ j = 557) (hst : st = As.reverse ++ .ref (gX E + j) :: rest) (hnA : As.length = nA) (hcat : (rest.map fun v => v.category).sum ≤ 8) (hd : d' + 1 ≤ d) (hk : mc ≤ k) (hn : ms ≤ n) (hdg : decode (md_c μ) pc = .ok (.invokevirtual idx, 3))
    (kk : ∀ (v : Option Value) (ρ' : hS), Q' v ρ' → hG E μ d Q (k - mc) (n - ms) ρ' (pc + 3) lv (v.toList ++ rest)) : hG E μ d Q k n ρ pc lv st := by
  refine h_run hk hn (fun mcT msT p l e R s m args below meth c cx H locs cells slots ls hH hc hss hl => ?_) kk
  obtain ⟨hx, hb, hml, hown, hts, hKK, hR, hB, -⟩ := cx
  obtain ⟨C, T, N, x, hc1, hh, hw, hcw, hyx, hnm, hn40⟩ := hs
  obtain ⟨hBB, hP, hD⟩ := id hH
  have hT : GoodIn wA (va_wsU own idx C (md_y μ').cls x (md_y μ') (gcw μ' :: wA)) := good_cat hw hcw
  have hdsc : (md_y μ').desc = x.desc := by rw [hyx]
  exact ⟨_, va_runU (g := F0 m pc ls st) (nL := md_n μ) ⟨hx, hb, hml, by rw [← ho]; exact hown, hts⟩ (hm l) (va_cwU nA hts hT (by rw [gcw_plain hh]) rfl rfl hyx ⟨hnm.1, hnm.2.1, by rw [← hdsc]; exact hnm.2.2⟩ (groom ⟨hR.1, hR.2.1⟩ hd hn40)) ⟨hPc_blind _ _ _, va_recv hKK.1 hP hc1 (hws_b hj), fun U hU hW => ⟨rfl, hKK.moved hW, by rw [hU]; exact hH⟩⟩ rfl hnA hl.1 hst (lv_room hcat) hdg ⟨by rw [hR.2.2.1]; omega, by rw [hR.2.2.2]; omega⟩⟩
/-- super's method -/
def gSX (own : String) (idx : Nat) (μ' : gMd) (nA : Nat) : Prop := md_h μ' = [] ∧ (∀ w ∈ ([.methodLink own idx (md_y μ'), .sameMethod (md_y μ').cls (md_y μ').cls (md_y μ').name (md_y μ').desc, .superclass own (md_y μ').cls, .instanceMethod (md_y μ'), .initialized (md_y μ').cls] : List Cond), w ∈ wA) ∧ gcw μ' ∈ wA ∧ ((md_y μ').name ≠ "<init>" ∧ (parseMethodDescriptor (md_y μ').desc).map (fun d => d.parameters.length) = some nA) ∧ md_n μ' ≤ 40
theorem h_callX {own : String} {idx j nA d' mc ms : Nat} {μ' : gMd} {As rest : List Value} {Q' : Option Value → hS → Prop} (hs : gSX own idx μ' nA) (ho : md_o μ = own) (hm : HC E μ' d' mc ms (.ref (gX E + j) :: As) ρ Q') (hj : j = 554 ∨ j = 557) (hst : st = As.reverse ++ .ref (gX E + j) :: rest) (hnA : As.length = nA) (hcat : (rest.map fun v => v.category).sum ≤ 8) (hd : d' + 1 ≤ d) (hk : mc ≤ k) (hn : ms ≤ n) (hdg : decode (md_c μ) pc = .ok (.invokespecial idx, 3))
    (kk : ∀ (v : Option Value) (ρ' : hS), Q' v ρ' → hG E μ d Q (k - mc) (n - ms) ρ' (pc + 3) lv (v.toList ++ rest)) : hG E μ d Q k n ρ pc lv st := by
  refine h_run hk hn (fun mcT msT p l e R s m args below meth c cx H locs cells slots ls hH hc hss hl => ?_) kk
  obtain ⟨hx, hb, hml, hown, hts, hKK, hR, hB, -⟩ := cx
  obtain ⟨hh, hw, hcw, hnm, hn40⟩ := hs
  obtain ⟨hBB, hP, hD⟩ := id hH
  have hT : GoodIn wA (va_wsSU own idx (md_y μ') (gcw μ' :: wA)) := good_cat hw hcw
  obtain ⟨hS, hfc, kC, hkC, hkind⟩ := hKK.1.1 10 (RJ4, TJ4, 4) rfl
  exact ⟨_, va_runSU (C := RJ4) ⟨hfc, kC, hkC, hkind⟩ (g := F0 m pc ls st) (nL := md_n μ) ⟨hx, hb, hml, by rw [← ho]; exact hown, hts⟩ (hm l) (va_cwSU nA hts hT (by rw [gcw_plain hh]) rfl rfl hnm (groom ⟨hR.1, hR.2.1⟩ hd hn40)) ⟨hPc_blind _ _ _, va_recv (q := (RJ4, TJ4, 4)) hKK.1 hP rfl (hws_b hj), fun U hU hW => ⟨rfl, hKK.moved hW, by rw [hU]; exact hH⟩⟩ rfl hnA hl.1 hst (lv_room hcat) hdg ⟨by rw [hR.2.2.1]; omega, by rw [hR.2.2.2]; omega⟩⟩
theorem HC.mono {mc ms : Nat} {As : List Value} {Q1 Q2 : Option Value → hS → Prop} (h : HC E μ d mc ms As ρ Q1) (hq : ∀ o ρ', Q1 o ρ' → Q2 o ρ') : HC E μ d mc ms As ρ Q2 := fun l =>
  MetFree.mono (h l) (fun _ _ h => h) (fun _ _ _ _ _ h => h) (fun a s o s' _ ⟨⟨v, ρ', e1, e2, e3, e4⟩, h5⟩ => ⟨⟨v, ρ', e1, hq _ _ e2, e3, e4⟩, h5⟩)
end HID2
