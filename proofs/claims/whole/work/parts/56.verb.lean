/-! the enum's constants and their texts (walks by wip/whole/gen_verb.py) -/
section VERB
variable {E : gE} {μ : gMd} {d : Nat} {Q : Option Value → hS → Prop} {k n : Nat} {ρ : hS} {pc : Nat} {lv : List (Nat × Value)} {st : List Value}
theorem gHbk {E : gE} {H : Heap} {s : State} (hB : gB E H) (hKK : gKK E s) : ∀ a : Nat, a < (gHb E).size → ¬ gA E a → H[a]? = (gHb E)[a]? := fun a ha _ => hB.2 a (by rw [← hKK.2.2.2.2.2.2.1]; exact ha)
/-- a field of an object before the world -/
theorem h_of {own : String} {idx : Nat} {o nm de : String} {q : Nat} (x : Value) (hE : ∀ s, gKK E s → va_OF o nm de x q (gA E) s (gHb E)) (hlk : Cond.fieldLink own idx o nm de ∈ wA) (ho : md_o μ = own) (hdg : decode (md_c μ) pc = .ok (.getfield idx, 3)) (kk : hG E μ d Q k n ρ (pc + 3) lv (x :: st)) : hG E μ d Q k n ρ pc lv (.ref q :: st) := by
  intro mcT msT p l e R s m args below meth c cx H locs cells slots ls hH hS hc hss hl
  have cx0 := cx
  obtain ⟨hx, hb, hml, hown, hts, hKK, hR, hB, -⟩ := cx0
  exact vk_getf hx hb ((hE s hKK).kept (gHbk hB hKK)) hS (by rw [← ho]; exact hown) (hts _ hlk) (fun x h => h) hdg (kk _ _ _ _ _ _ _ _ _ _ _ _ cx H locs cells slots ls hH hS hc hss hl)
theorem h_tlen {ty : FieldType} {t N : Nat} {f : Nat → Value} (v : Int32) (hT : ∀ s, gKK E s → va_T ty t N f (gA E) s (gHb E)) (hv : Int32.ofNat N = v) (hdg : decode (md_c μ) pc = .ok (.arraylength, 1)) (kk : hG E μ d Q k n ρ (pc + 1) lv (.int v :: st)) : hG E μ d Q k n ρ pc lv (.ref t :: st) := by
  intro mcT msT p l e R s m args below meth c cx H locs cells slots ls hH hS hc hss hl
  have cx0 := cx
  obtain ⟨hx, hb, hml, hown, hts, hKK, hR, hB, -⟩ := cx0
  exact va_tlen hx hb ((hT s hKK).kept (gHbk hB hKK)) hS hv hdg (kk _ _ _ _ _ _ _ _ _ _ _ _ cx H locs cells slots ls hH hS hc hss hl)
theorem gvb_s {s : State} (h : gKK E s) : vk_S 10 gLen gByt (fun i => gva E (40 + i)) (fun i => gva E (60 + i)) (gA E) s (gHb E) := (gvb h).2.2.2.2.2.2.2.2.1
/-- a method of a text -/
def gSt (own : String) (idx : Nat) (μ' : gMd) (nA : Nat) : Prop := md_h μ' = [] ∧ (∀ w ∈ ([.methodLink own idx (md_y μ'), .instanceMethod (md_y μ'), .selects "java/lang/String" (md_y μ') (md_y μ'), .initialized "java/lang/String"] : List Cond), w ∈ wA) ∧ gcw μ' ∈ wA ∧ (md_y μ').cls = "java/lang/String" ∧ gNm μ' nA ∧ md_n μ' ≤ 40
theorem h_callT {own : String} {idx i nA d' mc ms : Nat} {μ' : gMd} {As rest : List Value} {Q' : Option Value → hS → Prop} (hs : gSt own idx μ' nA) (ho : md_o μ = own) (hm : HC E μ' d' mc ms (.ref (gva E (40 + i)) :: As) ρ Q') (hi : i < 10) (hst : st = As.reverse ++ .ref (gva E (40 + i)) :: rest) (hnA : As.length = nA) (hcat : (rest.map fun v => v.category).sum ≤ 8) (hd : d' + 1 ≤ d) (hk : mc ≤ k) (hn : ms ≤ n) (hdg : decode (md_c μ) pc = .ok (.invokevirtual idx, 3))
    (kk : ∀ (v : Option Value) (ρ' : hS), Q' v ρ' → hG E μ d Q (k - mc) (n - ms) ρ' (pc + 3) lv (v.toList ++ rest)) : hG E μ d Q k n ρ pc lv st := by
  refine h_run hk hn (fun mcT msT p l e R s m args below meth c cx H locs cells slots ls hH hc hss hl => ?_) kk
  obtain ⟨hx, hb, hml, hown, hts, hKK, hR, hB, -⟩ := cx
  obtain ⟨hh, hw, hcw, hyC, hnm, hn40⟩ := hs
  have hT : GoodIn wA (wsV own idx "java/lang/String" (md_y μ') (gcw μ' :: wA)) := good_cat hw hcw
  obtain ⟨cell, c1, c2, c3, -⟩ := ((gvb_s hKK).1 i hi).1.kept (gHbk hH.1 hKK)
  exact ⟨_, va_runV (g := F0 m pc ls st) (nL := md_n μ) ⟨hx, hb, hml, by rw [← ho]; exact hown, hts⟩ (hm l) (cwV nA hts hT (by rw [gcw_plain hh]) rfl rfl ⟨hyC, hnm⟩ (groom ⟨hR.1, hR.2.1⟩ hd hn40)) ⟨hPc_blind _ _ _, ⟨cell, c1, c2, c3⟩, fun U hU hW => ⟨rfl, hKK.moved hW, by rw [hU]; exact hH⟩⟩ rfl hnA hl.1 hst (lv_room hcat) hdg ⟨by rw [hR.2.2.1]; omega, by rw [hR.2.2.2]; omega⟩⟩
theorem s_J0_335 : gSt RJ0 335 m_J0_coder_7d493 0 := ⟨rfl, wl_J0_335, cw_J0_coder_7d493, rfl, ⟨by decide, by decide, by decide +kernel⟩, by decide⟩
theorem s_J0_492 : gSt RJ0 492 m_J0_isLatin1_aae02 0 := ⟨rfl, wl_J0_492, cw_J0_isLatin1_aae02, rfl, ⟨by decide, by decide, by decide +kernel⟩, by decide⟩
theorem j_scoder {i : Nat} (hi : i < 10) (hd : 1 ≤ d) : HC E m_J0_coder_7d493 d 0 0 [.ref (gva E (40 + i))] ρ (fun o ρ' => o = some (.int 0) ∧ ρ' = ρ) := by
  refine HC.of ok_J0_coder_7d493 rfl (Nat.le_of_ble_eq_true rfl) ?_
  refine h_gets (fun s h => gvb_c h) lk_J0_38 rfl dJ0_coder_7d493_0 ?_
  refine h_if_eq 13 dJ0_coder_7d493_3 (by decide) (fun h => absurd h (by decide)) (fun _ => ?_)
  refine h_aload_n 0 dJ0_coder_7d493_6 rfl ?_
  refine h_of (.int 0) (fun s h => ((gvb_s h).1 i hi).2.1) lk_J0_15 rfl dJ0_coder_7d493_7 ?_
  refine h_goto 14 dJ0_coder_7d493_10 (by decide) ?_
  exact h_zret (ty := .byte) rfl rfl dJ0_coder_7d493_14 ⟨rfl, rfl⟩
theorem j_slatin {i : Nat} (hi : i < 10) (hd : 1 ≤ d) : HC E m_J0_isLatin1_aae02 d 0 0 [.ref (gva E (40 + i))] ρ (fun o ρ' => o = some (.int 1) ∧ ρ' = ρ) := by
  refine HC.of ok_J0_isLatin1_aae02 rfl (Nat.le_of_ble_eq_true rfl) ?_
  refine h_gets (fun s h => gvb_c h) lk_J0_38 rfl dJ0_isLatin1_aae02_0 ?_
  refine h_if_eq 17 dJ0_isLatin1_aae02_3 (by decide) (fun h => absurd h (by decide)) (fun _ => ?_)
  refine h_aload_n 0 dJ0_isLatin1_aae02_6 rfl ?_
  refine h_of (.int 0) (fun s h => ((gvb_s h).1 i hi).2.1) lk_J0_15 rfl dJ0_isLatin1_aae02_7 ?_
  refine h_if_ne 17 dJ0_isLatin1_aae02_10 (by decide) (fun h => absurd rfl h) (fun _ => ?_)
  refine h_iconst dJ0_isLatin1_aae02_13 (1 : Int32) (by decide) ?_
  refine h_goto 18 dJ0_isLatin1_aae02_14 (by decide) ?_
  exact h_zret (ty := .boolean) rfl rfl dJ0_isLatin1_aae02_18 ⟨rfl, rfl⟩
theorem j_slen {i : Nat} (hi : i < 10) (hd : 2 ≤ d) : HC E m_J0_length_8abf5 d 0 0 [.ref (gva E (40 + i))] ρ (fun o ρ' => o = some (.int (nI (gLen.getD i 0))) ∧ ρ' = ρ) := by
  refine HC.of ok_J0_length_8abf5 rfl (Nat.le_of_ble_eq_true rfl) ?_
  refine h_aload_n 0 dJ0_length_8abf5_0 rfl ?_
  refine h_of (.ref (gva E (60 + i))) (fun s h => ((gvb_s h).1 i hi).2.2.1) lk_J0_9 rfl dJ0_length_8abf5_1 ?_
  refine h_tlen (nI (gLen.getD i 0)) (fun s h => ((gvb_s h).1 i hi).2.2.2) rfl dJ0_length_8abf5_4 ?_
  refine h_aload_n 0 dJ0_length_8abf5_5 rfl ?_
  refine h_callT (rest := [.int (nI (gLen.getD i 0))]) s_J0_335 rfl (j_scoder (d := d - 1) hi (by omega)) hi rfl rfl (Nat.le_of_ble_eq_true rfl) (show d - 1 + 1 ≤ d by omega) (Nat.zero_le _) (Nat.zero_le _) dJ0_length_8abf5_6 ?_
  rintro _ _ ⟨rfl, rfl⟩
  refine h_ishr dJ0_length_8abf5_9 ?_
  rw [sb_shr0]
  exact h_iret rfl dJ0_length_8abf5_10 ⟨rfl, rfl⟩
theorem gLenB : ∀ i, i < 10 → gLen.getD i 0 ≤ 14 := by decide
theorem gBytB : ∀ i, i < 10 → ∀ q, q < gLen.getD i 0 → ∃ c, c < 256 ∧ (gByt.getD i []).getD q 0 = nI c ∧ nI c &&& 255 = nI c := by
  have h : ∀ i, i < 10 → ∀ q, q < 14 → (gByt.getD i []).getD q 0 = nI ((gByt.getD i []).getD q 0).toNatClampNeg ∧ ((gByt.getD i []).getD q 0).toNatClampNeg < 256 ∧ nI ((gByt.getD i []).getD q 0).toNatClampNeg &&& 255 = nI ((gByt.getD i []).getD q 0).toNatClampNeg := by decide +kernel
  intro i hi q hq
  have h2 := h i hi q (Nat.lt_of_lt_of_le hq (gLenB i hi))
  exact ⟨_, h2.2.1, h2.1, h2.2.2⟩
theorem j_sat1 {i q : Nat} (hi : i < 10) (hq : q < gLen.getD i 0) (hd : 3 ≤ d) : HC E m_J1_charAt_3b067 d 0 0 [.ref (gva E (60 + i)), .int (nI q)] ρ (fun o ρ' => o = some (.int ((gByt.getD i []).getD q 0)) ∧ ρ' = ρ) := by
  obtain ⟨c, hc, e1, e2⟩ := gBytB i hi q hq
  refine HC.of ok_J1_charAt_3b067 rfl (Nat.le_of_ble_eq_true rfl) ?_
  refine h_iload_n 1 dJ1_charAt_3b067_0 rfl ?_
  refine h_aload_n 0 dJ1_charAt_3b067_1 rfl ?_
  refine h_tlen (nI (gLen.getD i 0)) (fun s h => ((gvb_s h).1 i hi).2.2.2) rfl dJ1_charAt_3b067_2 ?_
  refine h_callS (rest := []) s_J1_9 rfl (j_check (d := d - 1) hq (by have := gLenB i hi; omega) (by omega)) rfl rfl (Nat.le_of_ble_eq_true rfl) (show d - 1 + 1 ≤ d by omega) (Nat.zero_le _) (Nat.zero_le _) dJ1_charAt_3b067_3 ?_
  rintro _ _ ⟨rfl, rfl⟩
  refine h_aload_n 0 dJ1_charAt_3b067_6 rfl ?_
  refine h_iload_n 1 dJ1_charAt_3b067_7 rfl ?_
  refine h_tb (.int (nI c)) (fun s h => ((gvb_s h).1 i hi).2.2.2) (vp_in_nI hq (by have := gLenB i hi; omega)) (by rw [nI_clamp (by have := gLenB i hi; omega), e1]) dJ1_charAt_3b067_8 ?_
  refine h_sipush dJ1_charAt_3b067_9 (255 : Int32) (by decide) ?_
  refine h_iand dJ1_charAt_3b067_12 ?_
  rw [e2]
  refine h_i2c dJ1_charAt_3b067_13 ?_
  rw [(sb_byte c hc).2.1]
  exact h_zret (ty := .char) rfl (by rw [narrow_char hc]) dJ1_charAt_3b067_14 ⟨by rw [e1], rfl⟩
theorem j_sat {i q : Nat} (hi : i < 10) (hq : q < gLen.getD i 0) (hd : 4 ≤ d) : HC E m_J0_charAt_5068e d 0 0 [.ref (gva E (40 + i)), .int (nI q)] ρ (fun o ρ' => o = some (.int ((gByt.getD i []).getD q 0)) ∧ ρ' = ρ) := by
  obtain ⟨c, hc, e1, e2⟩ := gBytB i hi q hq
  refine HC.of ok_J0_charAt_5068e rfl (Nat.le_of_ble_eq_true rfl) ?_
  refine h_aload_n 0 dJ0_charAt_5068e_0 rfl ?_
  refine h_callT (rest := []) s_J0_492 rfl (j_slatin (d := d - 1) hi (by omega)) hi rfl rfl (Nat.le_of_ble_eq_true rfl) (show d - 1 + 1 ≤ d by omega) (Nat.zero_le _) (Nat.zero_le _) dJ0_charAt_5068e_1 ?_
  rintro _ _ ⟨rfl, rfl⟩
  refine h_if_eq 16 dJ0_charAt_5068e_4 (by decide) (fun h => absurd h (by decide)) (fun _ => ?_)
  refine h_aload_n 0 dJ0_charAt_5068e_7 rfl ?_
  refine h_of (.ref (gva E (60 + i))) (fun s h => ((gvb_s h).1 i hi).2.2.1) lk_J0_9 rfl dJ0_charAt_5068e_8 ?_
  refine h_iload_n 1 dJ0_charAt_5068e_11 rfl ?_
  refine h_callS (rest := []) s_J0_495 rfl (j_sat1 (d := d - 1) hi hq (by omega)) rfl rfl (Nat.le_of_ble_eq_true rfl) (show d - 1 + 1 ≤ d by omega) (Nat.zero_le _) (Nat.zero_le _) dJ0_charAt_5068e_12 ?_
  rintro _ _ ⟨rfl, rfl⟩
  exact h_zret (ty := .char) rfl (by rw [e1, narrow_char hc]) dJ0_charAt_5068e_15 ⟨rfl, rfl⟩
theorem j_ord {i : Nat} (hi : i < 10) (hd : 1 ≤ d) : HC E m_Jx29ce0_ordinal_8abf5 d 0 0 [.ref (gva E i)] ρ (fun o ρ' => o = some (.int (nI i)) ∧ ρ' = ρ) := by
  refine HC.of ok_Jx29ce0_ordinal_8abf5 rfl (Nat.le_of_ble_eq_true rfl) ?_
  refine h_aload_n 0 dJx29ce0_ordinal_8abf5_0 rfl ?_
  refine h_of (.int (nI i)) (fun s h => (gvb h).2.2.2.1 i hi) lk_Jx29ce0_7 rfl dJx29ce0_ordinal_8abf5_1 ?_
  exact h_iret rfl dJx29ce0_ordinal_8abf5_4 ⟨rfl, rfl⟩
end VERB
/-! .. as the flat machine sees them -/
section VERBG
variable {E : gE} {μ : gMd} {d : Nat} {Q : gO → gS → Prop} {k n : Nat} {v : gV} {pc : Nat} {lv : List (Nat × Value)} {st : List Value}
theorem CT.hid0 {As : List Value} {x : Option Value} (h : ∀ ρ : hS, HC E μ d 0 0 As ρ (fun o ρ' => o = x ∧ ρ' = ρ)) (v : gV) : CT E μ d 0 0 As (rS v) (Cq (.inl x) v) :=
  CT.hid fun τ h1 h2 => HC.mono (h (v, τ, [])) (fun o ρ' ⟨e1, e2⟩ => ⟨v, by rw [e2]; exact h1, by rw [e2]; exact h2, by rw [e2]; exact List.append_nil _, by rw [e1]; exact ⟨rfl, rfl⟩⟩)
theorem ct_slen {i : Nat} (hi : i < 10) (hd : 2 ≤ d) (v : gV) : CT E m_J0_length_8abf5 d 0 0 [.ref (gva E (40 + i))] (rS v) (Cq (.inl (some (.int (nI (gLen.getD i 0))))) v) := CT.hid0 (fun ρ => j_slen hi hd) v
theorem ct_sat {i : Nat} (hi : i < 10) (hd : 4 ≤ d) (x : Int32) (hx : vp_in x (gLen.getD i 0)) (v : gV) : CT E m_J0_charAt_5068e d 0 0 [.ref (gva E (40 + i)), .int x] (rS v) (Cq (.inl (some (.int ((gByt.getD i []).getD x.toNatClampNeg 0)))) v) := by
  obtain ⟨e1, e2⟩ := vp_in_nat hx
  have h : ∀ ρ : hS, HC E m_J0_charAt_5068e d 0 0 [.ref (gva E (40 + i)), .int x] ρ (fun o ρ' => o = some (.int ((gByt.getD i []).getD x.toNatClampNeg 0)) ∧ ρ' = ρ) := fun ρ => by
    rw [e1]
    rw [nI_clamp (by have := gLenB i hi; omega)]
    exact j_sat hi e2 hd
  exact CT.hid0 h v
theorem ct_ord {i : Nat} (hi : i < 10) (hd : 1 ≤ d) (v : gV) : CT E m_Jx29ce0_ordinal_8abf5 d 0 0 [.ref (gva E i)] (rS v) (Cq (.inl (some (.int (nI i)))) v) := CT.hid0 (fun ρ => j_ord hi hd) v
/-- calls on a text -/
theorem r_callT {own : String} {idx i nA d' : Nat} {μ' : gMd} {As rest : List Value} (x : Value) (hs : gSt own idx μ' nA) (ho : md_o μ = own) (hm : CT E μ' d' 0 0 (.ref (gva E (40 + i)) :: As) (rS v) (Cq (.inl (some x)) v)) (hi : i < 10) (hst : st = As.reverse ++ .ref (gva E (40 + i)) :: rest) (hnA : As.length = nA) (hcat : (rest.map fun v => v.category).sum ≤ 8) (hd : d' + 1 ≤ d) (hdg : decode (md_c μ) pc = .ok (.invokevirtual idx, 3))
    (kk : gG E μ d Q k n (rS v) (pc + 3) lv (x :: rest)) : gG E μ d Q k n (rS v) pc lv st := by
  refine g_runm (Nat.zero_le _) (Nat.zero_le _) (fun mcT msT p l e R s m args below meth c Z cx H locs cells slots ls hH hc hss hl => ?_) (adV kk)
  obtain ⟨hx, hb, hml, hown, hts, hKK, hR, hB, hl0, -⟩ := cx
  obtain ⟨hh, hw, hcw, hyC, hnm, hn40⟩ := hs
  have hT : GoodIn wA (wsV own idx "java/lang/String" (md_y μ') (gcw μ' :: wA)) := good_cat hw hcw
  obtain ⟨cell, c1, c2, c3, -⟩ := ((gvb_s hKK).1 i hi).1.kept (gHbk hH.1 hKK)
  exact ⟨_, va_runV (g := F0 m pc ls st) (nL := md_n μ) ⟨hx, hb, hml, by rw [← ho]; exact hown, hts⟩ (hm.met cqn l hl0) (cwV nA hts hT (by rw [gcw_plain hh]) rfl rfl ⟨hyC, hnm⟩ (groom ⟨hR.1, hR.2.1⟩ hd hn40)) ⟨gPc_blind _ _ _, ⟨cell, c1, c2, c3⟩, fun U hU hW => ⟨rfl, hKK.moved hW, by rw [hU]; exact hH⟩⟩ rfl hnA hl.1 hst (lv_room hcat) hdg ⟨by rw [hR.2.2.1]; omega, by rw [hR.2.2.2]; omega⟩⟩
/-- a constant's place among its like -/
theorem r_ord {own : String} {idx i : Nat} {rest : List Value} (hw : ∀ w ∈ ([.methodLink own idx ⟨"PaperBoatInsurer$Verb", "ordinal", "()I"⟩, .sameMethod "PaperBoatInsurer$Verb" "java/lang/Enum" "ordinal" "()I", .selects "PaperBoatInsurer$Verb" ⟨"PaperBoatInsurer$Verb", "ordinal", "()I"⟩ yJx29ce0_ordinal_8abf5, .instanceMethod yJx29ce0_ordinal_8abf5, .initialized "java/lang/Enum"] : List Cond), w ∈ wA) (ho : md_o μ = own) (hi : i < 10) (hst : st = .ref (gva E i) :: rest) (hcat : (rest.map fun v => v.category).sum ≤ 8) (hd : 2 ≤ d) (hdg : decode (md_c μ) pc = .ok (.invokevirtual idx, 3))
    (kk : gG E μ d Q k n (rS v) (pc + 3) lv (.int (nI i) :: rest)) : gG E μ d Q k n (rS v) pc lv st := by
  refine g_runm (Nat.zero_le _) (Nat.zero_le _) (fun mcT msT p l e R s m args below meth c Z cx H locs cells slots ls hH hc hss hl => ?_) (adV kk)
  obtain ⟨hx, hb, hml, hown, hts, hKK, hR, hB, hl0, -⟩ := cx
  have hT : GoodIn wA (va_wsU own idx "PaperBoatInsurer$Verb" "java/lang/Enum" ⟨"PaperBoatInsurer$Verb", "ordinal", "()I"⟩ yJx29ce0_ordinal_8abf5 (gcw m_Jx29ce0_ordinal_8abf5 :: wA)) := good_cat hw cw_Jx29ce0_ordinal_8abf5
  obtain ⟨cell, c1, c2, c3, -⟩ := ((gvb hKK).2.2.2.2.1 i hi).kept (gHbk hH.1 hKK)
  exact ⟨_, va_runU (g := F0 m pc ls st) (nL := md_n μ) ⟨hx, hb, hml, by rw [← ho]; exact hown, hts⟩ ((ct_ord (d := d - 1) hi (by omega) v).met cqn l hl0) (va_cwU 0 hts hT rfl rfl rfl rfl ⟨by decide, by decide, by decide +kernel⟩ (groom (μ' := m_Jx29ce0_ordinal_8abf5) ⟨hR.1, hR.2.1⟩ (show d - 1 + 1 ≤ d by omega) (by decide))) ⟨gPc_blind _ _ _, ⟨cell, c1, c2, c3⟩, fun U hU hW => ⟨rfl, hKK.moved hW, by rw [hU]; exact hH⟩⟩ rfl rfl hl.1 hst (lv_room hcat) hdg ⟨by rw [hR.2.2.1]; omega, by rw [hR.2.2.2]; omega⟩⟩
variable {σ : gS}
theorem g_gets {own : String} {idx : Nat} {C nm de : String} (x : Value) (hZ : ∀ s, gKK E s → va_Z C nm de x (gA E) s (gHb E)) (hlk : Cond.fieldLink own idx C nm de ∈ wA) (ho : md_o μ = own) (hdg : decode (md_c μ) pc = .ok (.getstatic idx, 3)) (kk : gG E μ d Q k n σ (pc + 3) lv (x :: st)) : gG E μ d Q k n σ pc lv st := by
  intro mcT msT p l e R s m args below meth c Z cx H locs cells slots ls hH hS hc hss hl
  have cx0 := cx
  obtain ⟨hx, hb, hml, hown, hts, hKK, hR, hB, -⟩ := cx0
  exact va_gets hx hb ((hZ s hKK).kept (gHbk hB hKK)) hS (by rw [← ho]; exact hown) (hts _ hlk) (fun x h => h) hdg (kk _ _ _ _ _ _ _ _ _ _ _ _ _ cx H locs cells slots ls hH hS hc hss hl)
theorem g_getsN {own host : String} {idx : Nat} {C nm de : String} (x : Value) (hZ : ∀ s, gKK E s → va_Z C nm de x (gA E) s (gHb E)) (hlk : Cond.fieldLinkNest own idx C nm de host ∈ wN) (ho : md_o μ = own) (hdg : decode (md_c μ) pc = .ok (.getstatic idx, 3)) (kk : gG E μ d Q k n σ (pc + 3) lv (x :: st)) : gG E μ d Q k n σ pc lv st := by
  intro mcT msT p l e R s m args below meth c Z cx H locs cells slots ls hH hS hc hss hl
  have cx0 := cx
  obtain ⟨hx, hb, hml, hown, hts, hKK, hR, hB, -⟩ := cx0
  exact va_getsN hx hb ((hZ s hKK).kept (gHbk hB hKK)) hS (by rw [← ho]; exact hown) (va_Nw.use rfl (hKK.2.2.2.2.1 _ hlk)) (fun x h => h) hdg (kk _ _ _ _ _ _ _ _ _ _ _ _ _ cx H locs cells slots ls hH hS hc hss hl)
theorem g_of {own : String} {idx : Nat} {o nm de : String} {q : Nat} (x : Value) (hE : ∀ s, gKK E s → va_OF o nm de x q (gA E) s (gHb E)) (hlk : Cond.fieldLink own idx o nm de ∈ wA) (ho : md_o μ = own) (hdg : decode (md_c μ) pc = .ok (.getfield idx, 3)) (kk : gG E μ d Q k n σ (pc + 3) lv (x :: st)) : gG E μ d Q k n σ pc lv (.ref q :: st) := by
  intro mcT msT p l e R s m args below meth c Z cx H locs cells slots ls hH hS hc hss hl
  have cx0 := cx
  obtain ⟨hx, hb, hml, hown, hts, hKK, hR, hB, -⟩ := cx0
  exact vk_getf hx hb ((hE s hKK).kept (gHbk hB hKK)) hS (by rw [← ho]; exact hown) (hts _ hlk) (fun x h => h) hdg (kk _ _ _ _ _ _ _ _ _ _ _ _ _ cx H locs cells slots ls hH hS hc hss hl)
theorem g_tlen {ty : FieldType} {t N : Nat} {f : Nat → Value} (v : Int32) (hT : ∀ s, gKK E s → va_T ty t N f (gA E) s (gHb E)) (hv : Int32.ofNat N = v) (hdg : decode (md_c μ) pc = .ok (.arraylength, 1)) (kk : gG E μ d Q k n σ (pc + 1) lv (.int v :: st)) : gG E μ d Q k n σ pc lv (.ref t :: st) := by
  intro mcT msT p l e R s m args below meth c Z cx H locs cells slots ls hH hS hc hss hl
  have cx0 := cx
  obtain ⟨hx, hb, hml, hown, hts, hKK, hR, hB, -⟩ := cx0
  exact va_tlen hx hb ((hT s hKK).kept (gHbk hB hKK)) hS hv hdg (kk _ _ _ _ _ _ _ _ _ _ _ _ _ cx H locs cells slots ls hH hS hc hss hl)
theorem g_tq {i : Int32} {C : String} {t N : Nat} {f : Nat → Value} (v : Value) (hT : ∀ s, gKK E s → va_T (.object C) t N f (gA E) s (gHb E)) (hi : vp_in i N) (hv : f i.toNatClampNeg = v) (hdg : decode (md_c μ) pc = .ok (.aaload, 1)) (kk : gG E μ d Q k n σ (pc + 1) lv (v :: st)) : gG E μ d Q k n σ pc lv (.int i :: .ref t :: st) := by
  intro mcT msT p l e R s m args below meth c Z cx H locs cells slots ls hH hS hc hss hl
  have cx0 := cx
  obtain ⟨hx, hb, hml, hown, hts, hKK, hR, hB, -⟩ := cx0
  exact vb_tq hx hb ((hT s hKK).kept (gHbk hB hKK)) hS hi hv hdg (kk _ _ _ _ _ _ _ _ _ _ _ _ _ cx H locs cells slots ls hH hS hc hss hl)
theorem g_ti {i : Int32} {t N : Nat} {f : Nat → Value} (v : Value) (hT : ∀ s, gKK E s → va_T .int t N f (gA E) s (gHb E)) (hi : vp_in i N) (hv : f i.toNatClampNeg = v) (hdg : decode (md_c μ) pc = .ok (.iaload, 1)) (kk : gG E μ d Q k n σ (pc + 1) lv (v :: st)) : gG E μ d Q k n σ pc lv (.int i :: .ref t :: st) := by
  intro mcT msT p l e R s m args below meth c Z cx H locs cells slots ls hH hS hc hss hl
  have cx0 := cx
  obtain ⟨hx, hb, hml, hown, hts, hKK, hR, hB, -⟩ := cx0
  exact va_ti hx hb ((hT s hKK).kept (gHbk hB hKK)) hS hi hv hdg (kk _ _ _ _ _ _ _ _ _ _ _ _ _ cx H locs cells slots ls hH hS hc hss hl)
theorem g_ifnull {x : Nat} {off : Int} (hdg : decode (md_c μ) pc = .ok (.ifnull off, 3)) (kk : gG E μ d Q k n σ (pc + 3) lv st) : gG E μ d Q k n σ pc lv (.ref x :: st) := fun _ _ _ _ _ _ _ _ _ _ _ _ _ cx H locs cells slots ls hH hS hc hs hl => lv_ifnull (gx cx) (gb cx) hdg (kk _ _ _ _ _ _ _ _ _ _ _ _ _ cx H locs cells slots ls hH hS hc hs hl)
/-- two constants of the enum, compared -/
theorem g_acmpV {i j : Nat} {off : Int} (tgt : Nat) (hi : i < 10) (hj : j < 10) (hdg : decode (md_c μ) pc = .ok (.if_acmp .ne off, 3)) (ht : (pc : Int) + off = (tgt : Int)) (kt : ¬ i = j → gG E μ d Q k n σ tgt lv st) (kf : i = j → gG E μ d Q k n σ (pc + 3) lv st) : gG E μ d Q k n σ pc lv (.ref (gva E j) :: .ref (gva E i) :: st) := by
  intro mcT msT p l e R s m args below meth c Z cx H locs cells slots ls hH hS hc hs hl
  have cx0 := cx
  obtain ⟨hx, hb, hml, hown, hts, hKK, hR, hB, -⟩ := cx0
  have hinj := (gvb hKK).2.2.2.2.2.2.2.2.2.2.2.2.2.2.2.2.2 i j hi hj
  exact lv_acmp_ne (rx := some (gva E i)) (ry := some (gva E j)) hx hb hdg ht (fun h => kt (fun e => h (by rw [e])) _ _ _ _ _ _ _ _ _ _ _ _ _ cx H locs cells slots ls hH hS hc hs hl) (fun h => kf (hinj (Option.some.inj h)) _ _ _ _ _ _ _ _ _ _ _ _ _ cx H locs cells slots ls hH hS hc hs hl)
/-- a nest mate's field -/
def gFlN (own : String) (idx ci kf : Nat) : Prop := ∃ (C : String) (T : u_T) (N : Nat) (host : String), gcl[ci]? = some (C, T, N) ∧ kf < N ∧ nf ci = N ∧ (∀ w ∈ u_ws C T N, w ∈ wA) ∧ Cond.fieldLinkNest own idx (T kf).1 (T kf).2.1 (T kf).2.2.1 host ∈ wN
theorem r_getN {own : String} {idx ci kf j : Nat} (x : Value) (hf : gFlN own idx ci kf) (ho : md_o μ = own) (hkd : kd j = (0, ci)) (hj : j < 572) (hdg : decode (md_c μ) pc = .ok (.getfield idx, 3)) (hv : ∀ τ, fv E τ (rS v) ci j kf = x) (kk : gG E μ d Q k n (rS v) (pc + 3) lv (x :: st)) : gG E μ d Q k n (rS v) pc lv (.ref (gX E + j) :: st) := by
  intro _ _ _ _ _ _ _ _ _ _ _ _ _ cx H locs cells slots ls hH hS hc hs hl
  have cx0 := cx
  obtain ⟨hx, hb, hml, hown, hts, hKK, -⟩ := cx0
  obtain ⟨C, T, N, host, hc1, hk, hnf, hw, hlk⟩ := hf
  obtain ⟨hB, h572, hsz, τ, ht1, ht2, hP, hD⟩ := id hH
  have he : (gws E τ (rS v))[j]? = some (gX E + j, .inr (ci, fvs E τ (rS v) ci j)) := by rw [gws_at (show j < 572 from hj), cellE_0 hkd, adr_of (by rw [hkd]; show (0 : Nat) ≠ 7; decide)]
  have hfv : (fvs E τ (rS v) ci j)[kf]? = some x := by rw [fvs_at (by rw [hnf]; exact hk), hv]
  exact va_getN (D := E.1) (ci := ci) (v := x) hx hb hts hw (by rw [← ho]; exact hown) hKK.1 hP j he hc1 kf hk (va_Nw.use rfl (hKK.2.2.2.2.1 _ hlk)) (fun x h => h) hfv hdg (kk _ _ _ _ _ _ _ _ _ _ _ _ _ cx H locs cells slots ls hH hS hc hs hl)
/-- the verb that was read -/
theorem r_getV {own : String} {idx : Nat} (hf : gFl own idx 5 2) (ho : md_o μ = own) (hx : vp_in (v.1 553 2 - 1) 10) (hdg : decode (md_c μ) pc = .ok (.getfield idx, 3)) (kk : gG E μ d Q k n (rS v) (pc + 3) lv (.ref (gva E (v.1 553 2 - 1).toNatClampNeg) :: st)) : gG E μ d Q k n (rS v) pc lv (.ref (gX E + 553) :: st) := by
  obtain ⟨e1, e2⟩ := vp_in_nat hx
  have e3 : v.1 553 2 = nI ((v.1 553 2 - 1).toNatClampNeg + 1) := by
    rw [← nI_1, ← e1, Int32.sub_add_cancel]
  refine r_get (.ref (gva E (v.1 553 2 - 1).toNatClampNeg)) hf ho (by decide : kd 553 = (0, 5)) (by decide) hdg (fun τ => ?_) kk
  show (if v.1 553 2 = 0 then Value.null else .ref (gva E ((v.1 553 2).toNatClampNeg - 1))) = _
  have e4 : (v.1 553 2).toNatClampNeg = (v.1 553 2 - 1).toNatClampNeg + 1 := by
    rw [e3, nI_clamp (by omega), ← e3]
  rw [if_neg (by rw [e3]; exact nI_ne0 (by omega) (by omega)), e4, Nat.add_sub_cancel]
theorem fvs_verb {τ : gT} {v : gV} {i : Nat} (hi : i < 10) : fvs E τ (rS (vM v 553 2 (nI (i + 1)))) 5 553 = (fvs E τ (rS v) 5 553).set 2 (.ref (gva E i)) := by
  have h : ∀ w : gV, fvs E τ (rS w) 5 553 = [.ref (gX E + (553 + 1)), .ref (gX E + (553 + 3)), if w.1 553 2 = 0 then .null else .ref (gva E ((w.1 553 2).toNatClampNeg - 1)), .int (w.1 553 3)] := fun w => rfl
  have h2 : (vM v 553 2 (nI (i + 1))).1 553 2 = nI (i + 1) := by
    rw [vM_s, pk_us]
  have h3 : (vM v 553 2 (nI (i + 1))).1 553 3 = v.1 553 3 := by
    rw [vM_s, pk_un (by decide)]
  rw [h, h, h2, h3, if_neg (nI_ne0 (by omega) (by omega)), nI_clamp (by omega), Nat.add_sub_cancel]
  rfl
theorem r_putV {own : String} {idx : Nat} {ty : FieldType} {i : Nat} (hf : gFq own idx 5 2 ty false) (ho : md_o μ = own) (hi : i < 10) (hn : narrow ty (.ref (gva E i)) = .ref (gva E i)) (hfit : fits ty (.ref (gva E i)) = true) (hdg : decode (md_c μ) pc = .ok (.putfield idx, 3)) (kk : gG E μ d Q k n (rS (vM v 553 2 (nI (i + 1)))) (pc + 3) lv st) : gG E μ d Q k n (rS v) pc lv (.ref (gva E i) :: .ref (gX E + 553) :: st) := by
  intro _ _ _ _ _ _ _ _ _ _ _ _ _ cx H locs cells slots ls hH hS hc hs hl
  have cx0 := cx
  obtain ⟨hx, hb, hml, hown, hts, hKK, hR, hB, -⟩ := cx0
  obtain ⟨C, T, N, ref, ty0, hc1, hk, hnf, hw, hlk, hsm, hty, hnm, hfin, -, hd⟩ := hf
  obtain ⟨hBB, h572, hsz, τ, ht1, ht2, hP, hD⟩ := id hH
  have hkd : kd 553 = (0, 5) := by decide
  have he : (gws E τ (rS v))[553]? = some (gX E + 553, .inr (5, fvs E τ (rS v) 5 553)) := by rw [gws_at (show 553 < 572 by decide), cellE_0 hkd, adr_of (by rw [hkd]; show (0 : Nat) ≠ 7; decide)]
  refine va_put2 (D := E.1) (ci := 5) (v := .ref (gva E i)) hx hb hts hw ty0 hty hnm (by rw [← ho]; exact hown) hKK.1 hP hD hS 553 he hc1 2 hk (hts _ hlk) (gsame hts hsm) (Or.inl hfin) hd hn hfit (by rw [fvs_len, hnf]; exact hk) hdg (fun H1 locs1 hz1 hP1 hD1 hS1 => ?_)
  rw [show gX E + 553 = adr E τ 553 from (adr_of (by rw [hkd]; show (0 : Nat) ≠ 7; decide)).symm] at hP1 hD1
  exact kk _ _ _ _ _ _ _ _ _ _ _ _ _ cx H1 locs1 cells slots ls (gHH_set (σ := rS v) (σ' := rS (vM v 553 2 (nI (i + 1)))) ⟨hBB, h572, hsz⟩ ht1 ht2 hB hS1 (fun _ => hz1) rfl (show 553 < 572 by decide) (by rw [cellE_0 hkd, fvs_verb hi]) (fun a ha => cellE_upr (σ := rS v) ha) (fun a ha => upr_n (ntx hkd (by decide) (fun _ => by decide) ha)) hP1 hD1) hS1 hc hs hl
/-- a number of the script's own -/
theorem r_putS {own : String} {idx : Nat} {x : Int32} (hf : gFq own idx 5 3 .int false) (ho : md_o μ = own) (hdg : decode (md_c μ) pc = .ok (.putfield idx, 3)) (kk : gG E μ d Q k n (rS (vM v 553 3 x)) (pc + 3) lv st) : gG E μ d Q k n (rS v) pc lv (.int x :: .ref (gX E + 553) :: st) := by
  intro _ _ _ _ _ _ _ _ _ _ _ _ _ cx H locs cells slots ls hH hS hc hs hl
  have cx0 := cx
  obtain ⟨hx, hb, hml, hown, hts, hKK, hR, hB, -⟩ := cx0
  obtain ⟨C, T, N, ref, ty0, hc1, hk, hnf, hw, hlk, hsm, hty, hnm, hfin, -, hd⟩ := hf
  obtain ⟨hBB, h572, hsz, τ, ht1, ht2, hP, hD⟩ := id hH
  have hkd : kd 553 = (0, 5) := by decide
  have he : (gws E τ (rS v))[553]? = some (gX E + 553, .inr (5, fvs E τ (rS v) 5 553)) := by rw [gws_at (show 553 < 572 by decide), cellE_0 hkd, adr_of (by rw [hkd]; show (0 : Nat) ≠ 7; decide)]
  refine va_put2 (D := E.1) (ci := 5) (v := .int x) hx hb hts hw ty0 hty hnm (by rw [← ho]; exact hown) hKK.1 hP hD hS 553 he hc1 3 hk (hts _ hlk) (gsame hts hsm) (Or.inl hfin) hd rfl rfl (by rw [fvs_len, hnf]; exact hk) hdg (fun H1 locs1 hz1 hP1 hD1 hS1 => ?_)
  rw [show gX E + 553 = adr E τ 553 from (adr_of (by rw [hkd]; show (0 : Nat) ≠ 7; decide)).symm] at hP1 hD1
  have e5 : fvs E τ (rS (vM v 553 3 x)) 5 553 = (fvs E τ (rS v) 5 553).set 3 (.int x) := by
    have h : ∀ w : gV, fvs E τ (rS w) 5 553 = [.ref (gX E + (553 + 1)), .ref (gX E + (553 + 3)), if w.1 553 2 = 0 then .null else .ref (gva E ((w.1 553 2).toNatClampNeg - 1)), .int (w.1 553 3)] := fun w => rfl
    have h2 : (vM v 553 3 x).1 553 2 = v.1 553 2 := by
      rw [vM_s, pk_un (by decide)]
    have h3 : (vM v 553 3 x).1 553 3 = x := by
      rw [vM_s, pk_us]
    rw [h, h, h2, h3]
    rfl
  exact kk _ _ _ _ _ _ _ _ _ _ _ _ _ cx H1 locs1 cells slots ls (gHH_set (σ := rS v) (σ' := rS (vM v 553 3 x)) ⟨hBB, h572, hsz⟩ ht1 ht2 hB hS1 (fun _ => hz1) rfl (show 553 < 572 by decide) (by rw [cellE_0 hkd, e5]) (fun a ha => cellE_upr (σ := rS v) ha) (fun a ha => upr_n (ntx hkd (by decide) (fun _ => by decide) ha)) hP1 hD1) hS1 hc hs hl
end VERBG
