/-! JDK's own methods on texts: their contracts (walks laid by wip/whole/gen_jdk.py) -/
section JDK
variable {E : gE} {μ : gMd} {d : Nat} {Q : Option Value → hS → Prop} {k n : Nat} {ρ : hS} {pc : Nat} {lv : List (Nat × Value)} {st : List Value}
theorem gvb {s : State} (h : gKK E s) : gVb E s := h.2.2.2.2.2.2.2.2
theorem gvb_c {s : State} (h : gKK E s) : va_Z "java/lang/String" "COMPACT_STRINGS" "Z" (.int 1) (gA E) s (gHb E) := (gvb h).2.2.2.2.2.2.2.2.2.2.2.2.2.1
theorem gvb_q {s : State} (h : gKK E s) : va_Zq "jdk/internal/util/Preconditions" "SIOOBE_FORMATTER" "Ljava/util/function/BiFunction;" (gA E) s (gHb E) := (gvb h).2.2.2.2.2.2.2.2.2.2.2.2.2.2.1.1
theorem gvb_1 {s : State} (h : gKK E s) : va_Z "java/lang/Integer" "DigitOnes" "[B" (.ref (gva E 32)) (gA E) s (gHb E) := (gvb h).2.2.2.2.2.2.2.2.2.1
theorem gvb_1t {s : State} (h : gKK E s) : va_T .byte (gva E 32) 100 (fun i => .int (nI (48 + i % 10))) (gA E) s (gHb E) := (gvb h).2.2.2.2.2.2.2.2.2.2.1
theorem gvb_2 {s : State} (h : gKK E s) : va_Z "java/lang/Integer" "DigitTens" "[B" (.ref (gva E 33)) (gA E) s (gHb E) := (gvb h).2.2.2.2.2.2.2.2.2.2.2.1
theorem gvb_2t {s : State} (h : gKK E s) : va_T .byte (gva E 33) 100 (fun i => .int (nI (48 + i / 10))) (gA E) s (gHb E) := (gvb h).2.2.2.2.2.2.2.2.2.2.2.2.1
theorem h_aretA {x : Nat} {ty : FieldType} (hr : md_r μ = some (.array ty)) (hdg : decode (md_c μ) pc = .ok (.areturn, 1)) (hq : Q (some (.ref x)) ρ) : hG E μ d Q k n ρ pc lv [.ref x] := by
  intro mcT msT p l e R s m args below meth c cx H locs cells slots ls hH hS hc hs hl
  obtain ⟨hx, hb, -, -, -, -, -, -, hlocks, hr'⟩ := cx
  refine W.widen (show cells ≤ mcT by omega) (show slots ≤ msT by omega) ?_
  exact W.aret hx hb (hr'.trans hr) (Or.inr ⟨_, rfl⟩) (Or.inr ⟨_, rfl⟩) (fun t ht _ => ⟨_, ρ, rfl, hq, by rw [ht]; exact hH, hS.F ht⟩) hS.2.2 hdg hlocks
theorem nI_subN {a b : Nat} (h : b ≤ a) : nI a - nI b = nI (a - b) := by
  have h1 := nI_add (a - b) b
  rw [Nat.sub_add_cancel h] at h1
  rw [← h1, Int32.add_sub_cancel]
theorem nI_subLe {a b : Nat} (h : a ≤ b) (hb : b < 2 ^ 31) : nI a - nI b ≤ 0 := by
  have e : nI a - nI b = -nI (b - a) := by rw [← nI_subN h, Int32.neg_sub]
  rw [e]
  exact (sb_nle (a := b - a) (b := 0) (by omega) (by omega)).mpr (Nat.zero_le _)
/-- a text's hidden part, set and read -/
theorem tj_ts {τ : gT} {w : gT1} {j : Nat} : tj (ts τ j w) j = w := by
  unfold tj ts
  by_cases h : j = 554
  · rw [if_pos h, if_pos h]
  · rw [if_neg h, if_neg h]
theorem ts_ts {τ : gT} {w w' : gT1} {j : Nat} : ts (ts τ j w) j w' = ts τ j w' := by
  unfold ts
  by_cases h : j = 554
  · rw [if_pos h, if_pos h, if_pos h]
  · rw [if_neg h, if_neg h, if_neg h]
theorem ts_tj {τ : gT} {j : Nat} : ts τ j (tj τ j) = τ := by
  unfold ts tj
  by_cases h : j = 554
  · rw [if_pos h, if_pos h]
  · rw [if_neg h, if_neg h]
variable {v : gV} {τ : gT} {w : gT1} {X : va_W} {j : Nat}
theorem fvV : fv E (ts τ j w) (rS v) 10 j 0 = .ref w.1 := by rw [fvB0, tj_ts]
theorem hws_w (hj : j = 554 ∨ j = 557) : (hws E (v, ts τ j w, X))[j + 1]? = some (w.1, .inl (gar E 6, w.2.1, .inl w.2.2.1)) := by
  have h := hws_t (E := E) (ρ := (v, ts τ j w, X)) hj
  rw [show tj ((v, ts τ j w, X) : hS).2.1 j = w from tj_ts] at h
  exact h
theorem h_lenW (x : Int32) (hj : j = 554 ∨ j = 557) (hv : Int32.ofNat w.2.1 = x) (hdg : decode (md_c μ) pc = .ok (.arraylength, 1)) (kk : hG E μ d Q k n (v, ts τ j w, X) (pc + 1) lv (.int x :: st)) : hG E μ d Q k n (v, ts τ j w, X) pc lv (.ref w.1 :: st) := h_alen x (hws_w hj) hv hdg kk
/-- the other cells don't see a text's hidden part -/
theorem ts_cell {v : gV} {τ : gT} {w w' : gT1} {i : Nat} (hj : j = 554 ∨ j = 557) (h0 : i ≠ j) (h1 : i ≠ j + 1) : adr E (ts τ j w) i = adr E (ts τ j w') i ∧ cellE E (ts τ j w) (rS v) i = cellE E (ts τ j w') (rS v) i := by
  rcases hj with rfl | rfl
  · by_cases h7 : i = 557
    · subst h7
      exact ⟨rfl, rfl⟩
    · by_cases h8 : i = 558
      · subst h8
        exact ⟨rfl, rfl⟩
      · refine ⟨?_, cellE_not10 h0 h1 h7 h8⟩
        unfold adr
        rw [if_neg h1, if_neg h8, if_neg h1, if_neg h8]
  · by_cases h7 : i = 554
    · subst h7
      exact ⟨rfl, rfl⟩
    · by_cases h8 : i = 555
      · subst h8
        exact ⟨rfl, rfl⟩
      · refine ⟨?_, cellE_not10 h7 h8 h0 h1⟩
        unfold adr
        rw [if_neg h8, if_neg h1, if_neg h8, if_neg h1]
theorem fvs10 {τ : gT} {v : gV} : fvs E τ (rS v) 10 j = [fv E τ (rS v) 10 j 0, fv E τ (rS v) 10 j 1, fv E τ (rS v) 10 j 2, fv E τ (rS v) 10 j 3] := rfl
theorem fvsW {τ : gT} {w : gT1} {v : gV} : fvs E (ts τ j w) (rS v) 10 j = [.ref w.1, .int (v.1 j 1), .int w.2.2.2, .int (v.1 j 3)] := by
  rw [fvs10, fvV, fvB1, fvB2, fvB3, tj_ts]
theorem adrW (hj : j = 554 ∨ j = 557) {τ : gT} {w : gT1} : adr E (ts τ j w) (j + 1) = w.1 := by
  rcases hj with rfl | rfl <;> rfl
theorem adrB (hj : j = 554 ∨ j = 557) {τ : gT} : adr E τ j = gX E + j := by
  rcases hj with rfl | rfl <;> rfl
theorem cellW (hj : j = 554 ∨ j = 557) {τ : gT} {w : gT1} {v : gV} : cellE E (ts τ j w) (rS v) (j + 1) = .inl (gar E 6, w.2.1, .inl w.2.2.1) := by
  rcases hj with rfl | rfl <;> rfl
theorem cellB (hj : j = 554 ∨ j = 557) {τ : gT} {w : gT1} {v : gV} : cellE E (ts τ j w) (rS v) j = .inr (10, [.ref w.1, .int (v.1 j 1), .int w.2.2.2, .int (v.1 j 3)]) := by
  rw [cellE_0 (kdB hj), fvsW]
/-- a byte's store -/
theorem h_bastW {i x : Int32} (f' : Nat → Int32) (hj : j = 554 ∨ j = 557) (hi : vp_in i w.2.1) (hf : upd w.2.2.1 i.toNatClampNeg (vp_nar .byte x) = f') (hdg : decode (md_c μ) pc = .ok (.bastore, 1)) (kk : hG E μ d Q k n (v, ts τ j (w.1, w.2.1, f', w.2.2.2), X) (pc + 1) lv st) : hG E μ d Q k n (v, ts τ j w, X) pc lv (.int x :: .int i :: .ref w.1 :: st) := by
  refine h_bast (v, ts τ j (w.1, w.2.1, f', w.2.2.2), X) (hws_w hj) hi ?_ hdg kk
  have e := hws_set (E := E) (ρ := (v, ts τ j w, X)) (ρ' := (v, ts τ j (w.1, w.2.1, f', w.2.2.2), X)) (j := j + 1) rfl (by rcases hj with rfl | rfl <;> decide) (fun i => ?_) (cellW hj) (fun i hi => ?_)
  · rw [show adr E ((v, ts τ j w, X) : hS).2.1 (j + 1) = w.1 from adrW hj] at e
    rw [hf]
    exact e
  · by_cases h0 : i = j
    · subst h0
      exact (adrB hj).trans (adrB hj).symm
    · by_cases h1 : i = j + 1
      · subst h1
        show adr E (ts τ j (w.1, w.2.1, f', w.2.2.2)) (j + 1) = adr E (ts τ j w) (j + 1)
        rw [adrW hj, adrW hj]
      · exact (ts_cell (v := v) hj h0 h1).1
  · by_cases h0 : i = j
    · subst h0
      show cellE E (ts τ i (w.1, w.2.1, f', w.2.2.2)) (rS v) i = cellE E (ts τ i w) (rS v) i
      rw [cellB hj, cellB hj]
    · exact (ts_cell hj h0 hi).2
theorem cellV {τ : gT} {v : gV} {i kf : Nat} {x : Int32} (h : i ≠ j) : cellE E τ (rS (vM v j kf x)) i = cellE E τ (rS v) i := cellE_upr (σ := rS v) h
/-- the count's store -/
theorem h_putc {own : String} {idx : Nat} {x : Int32} (hf : gFq own idx 10 3 .int false) (ho : md_o μ = own) (hj : j = 554 ∨ j = 557) (hdg : decode (md_c μ) pc = .ok (.putfield idx, 3)) (kk : hG E μ d Q k n (vM v j 3 x, ts τ j w, X) (pc + 3) lv st) : hG E μ d Q k n (v, ts τ j w, X) pc lv (.int x :: .ref (gX E + j) :: st) := by
  have e : (hws E (v, ts τ j w, X)).set j (gX E + j, .inr (10, (fvs E (ts τ j w) (rS v) 10 j).set 3 (.int x))) = hws E (vM v j 3 x, ts τ j w, X) := by
    rw [← adrB (E := E) hj (τ := ts τ j w)]
    refine hws_set (ρ := (v, ts τ j w, X)) (ρ' := (vM v j 3 x, ts τ j w, X)) rfl (by rcases hj with rfl | rfl <;> decide) (fun i => rfl) ?_ (fun i hi => cellV hi)
    show cellE E (ts τ j w) (rS (vM v j 3 x)) j = _
    rw [cellB hj, fvsW]
    have h1 : (vM v j 3 x).1 j 1 = v.1 j 1 := by
      show upr v.1 j (upd (v.1 j) 3 x) j 1 = _
      rw [upr_s, pk_un (by decide)]
    have h3 : (vM v j 3 x).1 j 3 = x := by
      show upr v.1 j (upd (v.1 j) 3 x) j 3 = _
      rw [upr_s, pk_us]
    rw [h1, h3]
    rfl
  exact h_putL hf ho hj rfl rfl hdg _ (fun H1 h => by rw [← e]; exact h) (fun h => by rw [← e]; exact h) kk
/-- the flag's store -/
theorem h_putm {own : String} {idx : Nat} {x : Int32} (hf : gFq own idx 10 2 .boolean false) (ho : md_o μ = own) (hj : j = 554 ∨ j = 557) (hx : x = 0 ∨ x = 1) (hdg : decode (md_c μ) pc = .ok (.putfield idx, 3)) (kk : hG E μ d Q k n (v, ts τ j (w.1, w.2.1, w.2.2.1, x), X) (pc + 3) lv st) : hG E μ d Q k n (v, ts τ j w, X) pc lv (.int x :: .ref (gX E + j) :: st) := by
  have e : (hws E (v, ts τ j w, X)).set j (gX E + j, .inr (10, (fvs E (ts τ j w) (rS v) 10 j).set 2 (.int x))) = hws E (v, ts τ j (w.1, w.2.1, w.2.2.1, x), X) := by
    rw [← adrB (E := E) hj (τ := ts τ j w)]
    refine hws_set (ρ := (v, ts τ j w, X)) (ρ' := (v, ts τ j (w.1, w.2.1, w.2.2.1, x), X)) rfl (by rcases hj with rfl | rfl <;> decide) (fun i => ?_) ?_ (fun i hi => ?_)
    · by_cases h0 : i = j
      · subst h0
        exact (adrB hj).trans (adrB hj).symm
      · by_cases h1 : i = j + 1
        · subst h1
          show adr E (ts τ j (w.1, w.2.1, w.2.2.1, x)) (j + 1) = adr E (ts τ j w) (j + 1)
          rw [adrW hj, adrW hj]
        · exact (ts_cell (v := v) hj h0 h1).1
    · show cellE E (ts τ j (w.1, w.2.1, w.2.2.1, x)) (rS v) j = _
      rw [cellB hj, fvsW]
      rfl
    · by_cases h1 : i = j + 1
      · subst h1
        show cellE E (ts τ j (w.1, w.2.1, w.2.2.1, x)) (rS v) (j + 1) = cellE E (ts τ j w) (rS v) (j + 1)
        rw [cellW hj, cellW hj]
      · exact (ts_cell hj hi h1).2
  exact h_putL hf ho hj (nz hx) (fz hx) hdg _ (fun H1 h => by rw [← e]; exact h) (fun h => by rw [← e]; exact h) kk
/-- new bytes in the old ones' stead -/
theorem h_putv {own : String} {idx qa N : Nat} {f : Nat → Int32} (hf : gFq own idx 10 0 (.array .byte) false) (ho : md_o μ = own) (hj : j = 554 ∨ j = 557) (hdg : decode (md_c μ) pc = .ok (.putfield idx, 3)) (kk : hG E μ d Q k n (v, ts τ j (qa, N, f, w.2.2.2), []) (pc + 3) lv st) : hG E μ d Q k n (v, ts τ j w, [(qa, .inl (gar E 6, N, .inl f))]) pc lv (.ref qa :: .ref (gX E + j) :: st) := by
  have hj5 : j + 1 < 572 := by rcases hj with rfl | rfl <;> decide
  have key : ∀ (i : Nat) (x : Nat × va_E), (hws E (v, ts τ j (qa, N, f, w.2.2.2), []))[i]? = some x → i < 572 ∧ ((hws E (v, ts τ j w, [(qa, .inl (gar E 6, N, .inl f))])).set j (gX E + j, .inr (10, (fvs E (ts τ j w) (rS v) 10 j).set 0 (.ref qa))))[if i = j + 1 then 572 else i]? = some x := by
    intro i x hi
    have h572 : i < 572 := by
      have h9 := (List.getElem?_eq_some_iff.mp hi).1
      rw [hws_len] at h9
      exact h9
    refine ⟨h572, ?_⟩
    rw [hws_at h572] at hi
    rw [← hi]
    by_cases h1 : i = j + 1
    · subst h1
      rw [if_pos rfl, List.getElem?_set, if_neg (by omega), hws_x (ρ := (v, ts τ j w, []))]
      show _ = some (adr E (ts τ j (qa, N, f, w.2.2.2)) (j + 1), cellE E (ts τ j (qa, N, f, w.2.2.2)) (rS v) (j + 1))
      rw [adrW hj, cellW hj]
    · rw [if_neg h1, List.getElem?_set]
      by_cases h0 : j = i
      · subst h0
        rw [if_pos rfl, if_pos (by rw [hws_len]; omega)]
        show _ = some (adr E (ts τ j (qa, N, f, w.2.2.2)) j, cellE E (ts τ j (qa, N, f, w.2.2.2)) (rS v) j)
        rw [adrB hj, cellB hj, fvsW]
        rfl
      · rw [if_neg h0, hws_at h572]
        have h9 := ts_cell (E := E) (v := v) (τ := τ) (w := w) (w' := (qa, N, f, w.2.2.2)) hj (Ne.symm h0) h1
        show some (adr E (ts τ j w) i, cellE E (ts τ j w) (rS v) i) = some (adr E (ts τ j (qa, N, f, w.2.2.2)) i, cellE E (ts τ j (qa, N, f, w.2.2.2)) (rS v) i)
        rw [h9.1, h9.2]
  refine h_putL hf ho hj rfl rfl hdg _ (fun H1 h i x hi => h _ x (key i x hi).2) (fun h => ⟨fun a b p q ha hb hpq => ?_, fun i x hi => h.2 _ x (key i x hi).2⟩) kk
  have ha1 := key a p ha
  have hb1 := key b q hb
  have h9 := h.1 _ _ p q ha1.2 hb1.2 hpq
  by_cases e1 : a = j + 1
  · by_cases e2 : b = j + 1
    · omega
    · rw [if_pos e1, if_neg e2] at h9
      omega
  · by_cases e2 : b = j + 1
    · rw [if_neg e1, if_pos e2] at h9
      omega
    · rw [if_neg e1, if_neg e2] at h9
      exact h9
theorem hws_xset {q : Nat} {e e' : va_E} : (hws E (v, τ, [(q, e)])).set 572 (q, e') = hws E (v, τ, [(q, e')]) := by
  unfold hws
  rw [List.set_append_right _ _ (by rw [gws_len]; exact Nat.le_refl 572), gws_len]
  rfl
theorem sb_nar : ∀ c, c < 256 → vp_nar .byte (nI c).toInt8.toInt32 = sb_b c ∧ vp_nar .byte (nI c) = sb_b c := by decide +kernel
theorem j_isLatin1 {v : gV} {τ : gT} {w : gT1} {X : va_W} {j : Nat} (hj : j = 554 ∨ j = 557) (hc : v.1 j 1 = 0) (hd : 1 ≤ d) : HC E m_J5_isLatin1_aae02 d 0 0 [.ref (gX E + j)] (v, ts τ j w, X) (fun r ρ' => r = some (.int 1) ∧ ρ' = (v, ts τ j w, X)) := by
  refine HC.of ok_J5_isLatin1_aae02 rfl (Nat.le_of_ble_eq_true rfl) ?_
  refine h_gets (fun s h => gvb_c h) lk_J5_18 rfl dJ5_isLatin1_aae02_0 ?_
  refine h_if_eq 17 dJ5_isLatin1_aae02_3 (by decide) (fun h => absurd h (by decide)) (fun _ => ?_)
  refine h_aload_n 0 dJ5_isLatin1_aae02_6 rfl ?_
  refine h_get (.int 0) f_J5_22 rfl hj dJ5_isLatin1_aae02_7 (by rw [fvB1, hc]) ?_
  refine h_if_ne 17 dJ5_isLatin1_aae02_10 (by decide) (fun h => absurd rfl h) (fun _ => ?_)
  refine h_iconst dJ5_isLatin1_aae02_13 (1 : Int32) (by decide) ?_
  refine h_goto 18 dJ5_isLatin1_aae02_14 (by decide) ?_
  exact h_zret (ty := .boolean) rfl rfl dJ5_isLatin1_aae02_18 ⟨rfl, rfl⟩
theorem j_canEncode {x : Int32} (hx : x ≤ 255) (hd : 1 ≤ d) : HC E m_J1_canEncode_fc78d d 0 0 [.int x] ρ (fun r ρ' => r = some (.int 1) ∧ ρ' = ρ) := by
  refine HC.of ok_J1_canEncode_fc78d rfl (Nat.le_of_ble_eq_true rfl) ?_
  refine h_iload_n 0 dJ1_canEncode_fc78d_0 rfl ?_
  refine h_sipush dJ1_canEncode_fc78d_1 (255 : Int32) (by decide) ?_
  refine h_icmp_gt 11 dJ1_canEncode_fc78d_4 (by decide) (fun h => absurd h (Int32.not_lt.mpr hx)) (fun _ => ?_)
  refine h_iconst dJ1_canEncode_fc78d_7 (1 : Int32) (by decide) ?_
  refine h_goto 12 dJ1_canEncode_fc78d_8 (by decide) ?_
  exact h_zret (ty := .boolean) rfl rfl dJ1_canEncode_fc78d_12 ⟨rfl, rfl⟩
theorem j_newLength {a b c r : Nat} (hr : nI a + (if nI b < nI c then nI c else nI b) = nI r) (h0 : 0 < r) (h1 : r ≤ 65536) (hd : 2 ≤ d) : HC E m_J8_newLength_cabcc d 0 0 [.int (nI a), .int (nI b), .int (nI c)] ρ (fun o ρ' => o = some (.int (nI r)) ∧ ρ' = ρ) := by
  refine HC.of ok_J8_newLength_cabcc rfl (Nat.le_of_ble_eq_true rfl) ?_
  refine h_iload_n 0 dJ8_newLength_cabcc_0 rfl ?_
  refine h_iload_n 1 dJ8_newLength_cabcc_1 rfl ?_
  refine h_iload_n 2 dJ8_newLength_cabcc_2 rfl ?_
  refine h_mmax mw_J8_194 rfl (Nat.le_of_ble_eq_true rfl) (by omega) dJ8_newLength_cabcc_3 ?_
  refine h_iadd dJ8_newLength_cabcc_6 ?_
  rw [hr]
  refine h_istore_n [(3, .int (nI r)), (0, .int (nI a)), (1, .int (nI b)), (2, .int (nI c))] dJ8_newLength_cabcc_7 rfl (by decide) rfl ?_
  refine h_iconst dJ8_newLength_cabcc_8 (0 : Int32) (by decide) ?_
  refine h_iload_n 0 dJ8_newLength_cabcc_9 rfl ?_
  refine h_icmp_ge 21 dJ8_newLength_cabcc_10 (by decide) (fun h => absurd h (nI_nle (by omega) (by omega))) (fun _ => ?_)
  refine h_iload_n 0 dJ8_newLength_cabcc_13 rfl ?_
  refine h_ldc (2147483639 : Int32) k_J8_200 rfl dJ8_newLength_cabcc_14 ?_
  refine h_icmp_gt 21 dJ8_newLength_cabcc_16 (by decide) (fun h => absurd h (nI_nlt (a := 2147483639) (by omega) (by decide))) (fun _ => ?_)
  refine h_iload_n 0 dJ8_newLength_cabcc_19 rfl ?_
  exact h_iret rfl dJ8_newLength_cabcc_20 ⟨rfl, rfl⟩
theorem sb_capB {q m : Nat} (hq : q ≤ 4096) (hm : m ≤ 4096) : sb_cap q m ≤ 65536 := by
  unfold sb_cap
  repeat' split
  all_goals omega
theorem j_newCapacity {v : gV} {τ : gT} {w : gT1} {X : va_W} {j : Nat} (hj : j = 554 ∨ j = 557) (hc : v.1 j 1 = 0) {q : Nat} (hq : w.2.1 < q) (hq1 : q ≤ 4096) (hm1 : w.2.1 ≤ 4096) (hd : 3 ≤ d) : HC E m_J5_newCapacity_0f7a4 d 0 0 [.ref (gX E + j), .int (nI q)] (v, ts τ j w, X) (fun o ρ' => o = some (.int (nI (sb_cap q w.2.1))) ∧ ρ' = (v, ts τ j w, X)) := by
  have hcap : nI w.2.1 + (if nI (q - w.2.1) < nI (w.2.1 + 2) then nI (w.2.1 + 2) else nI (q - w.2.1)) = nI (sb_cap q w.2.1) := by
    have hb : nI (q - w.2.1) < nI (w.2.1 + 2) ↔ q - w.2.1 < w.2.1 + 2 := nI_ltI (by omega) (by omega)
    unfold sb_cap
    by_cases h : q - w.2.1 < w.2.1 + 2
    · rw [if_pos (hb.mpr h), nI_add, if_neg (by omega), if_neg (by omega)]
      congr 1; omega
    · rw [if_neg (fun z => h (hb.mp z)), nI_add, if_neg (by omega)]
      by_cases h2 : 2 * w.2.1 + 2 < q
      · rw [if_pos h2]; congr 1; omega
      · rw [if_neg h2]; congr 1; omega
  have hc1 : sb_cap q w.2.1 ≤ 65536 := sb_capB hq1 hm1
  have hc2 : ¬ nI (sb_cap q w.2.1) = (2147483647 : Int32) := fun h => by
    have h9 : nI (sb_cap q w.2.1) = nI 2147483647 := h
    rw [nI_eq (by omega) (by decide)] at h9
    omega
  refine HC.of ok_J5_newCapacity_0f7a4 rfl (Nat.le_of_ble_eq_true rfl) ?_
  refine h_aload_n 0 dJ5_newCapacity_0f7a4_0 rfl ?_
  refine h_get (.ref w.1) f_J5_15 rfl hj dJ5_newCapacity_0f7a4_1 fvV ?_
  refine h_lenW (nI w.2.1) hj rfl dJ5_newCapacity_0f7a4_4 ?_
  refine h_istore_n [(2, .int (nI w.2.1)), (0, .ref (gX E + j)), (1, .int (nI q))] dJ5_newCapacity_0f7a4_5 rfl (by decide) rfl ?_
  refine h_iload_n 2 dJ5_newCapacity_0f7a4_6 rfl ?_
  refine h_aload_n 1 dJ5_newCapacity_0f7a4_7 rfl ?_
  refine h_get (.int 0) f_J5_22 rfl hj dJ5_newCapacity_0f7a4_8 (by rw [fvB1, hc]) ?_
  refine h_ishl dJ5_newCapacity_0f7a4_11 ?_
  rw [sb_shl0]
  refine h_istore_n [(3, .int (nI q)), (2, .int (nI w.2.1)), (0, .ref (gX E + j)), (1, .int (nI q))] dJ5_newCapacity_0f7a4_12 rfl (by decide) rfl ?_
  refine h_iload_n 0 dJ5_newCapacity_0f7a4_13 rfl ?_
  refine h_iload_n 1 dJ5_newCapacity_0f7a4_14 rfl ?_
  refine h_isub dJ5_newCapacity_0f7a4_15 ?_
  rw [nI_subN (Nat.le_of_lt hq)]
  refine h_istore [(4, .int (nI (q - w.2.1))), (3, .int (nI q)), (2, .int (nI w.2.1)), (0, .ref (gX E + j)), (1, .int (nI q))] dJ5_newCapacity_0f7a4_16 (by decide) rfl ?_
  refine h_iload_n 2 dJ5_newCapacity_0f7a4_18 rfl ?_
  refine h_iload 0 dJ5_newCapacity_0f7a4_19 rfl ?_
  refine h_iload_n 2 dJ5_newCapacity_0f7a4_21 rfl ?_
  refine h_iconst dJ5_newCapacity_0f7a4_22 (2 : Int32) (by decide) ?_
  refine h_aload_n 3 dJ5_newCapacity_0f7a4_23 rfl ?_
  refine h_get (.int 0) f_J5_22 rfl hj dJ5_newCapacity_0f7a4_24 (by rw [fvB1, hc]) ?_
  refine h_ishl dJ5_newCapacity_0f7a4_27 ?_
  rw [sb_shl0]
  refine h_iadd dJ5_newCapacity_0f7a4_28 ?_
  rw [show nI w.2.1 + 2 = nI (w.2.1 + 2) from nI_add _ 2]
  refine h_callS (rest := []) s_J5_114 rfl (j_newLength (d := d - 1) (r := sb_cap q w.2.1) hcap (Nat.lt_of_lt_of_le (by omega) (sb_cap_ge q _)) hc1 (by omega)) rfl rfl (Nat.le_of_ble_eq_true rfl) (show d - 1 + 1 ≤ d by omega) (Nat.zero_le _) (Nat.zero_le _) dJ5_newCapacity_0f7a4_29 ?_
  rintro _ _ ⟨rfl, rfl⟩
  refine h_istore [(5, .int (nI (sb_cap q w.2.1))), (4, .int (nI (q - w.2.1))), (3, .int (nI q)), (2, .int (nI w.2.1)), (0, .ref (gX E + j)), (1, .int (nI q))] dJ5_newCapacity_0f7a4_32 (by decide) rfl ?_
  refine h_iload 0 dJ5_newCapacity_0f7a4_34 rfl ?_
  refine h_ldc (2147483647 : Int32) k_J5_39 rfl dJ5_newCapacity_0f7a4_36 ?_
  refine h_icmp_ne 51 dJ5_newCapacity_0f7a4_38 (by decide) (fun _ => ?_) (fun h => absurd h hc2)
  refine h_iload 0 dJ5_newCapacity_0f7a4_51 rfl ?_
  refine h_aload_n 4 dJ5_newCapacity_0f7a4_53 rfl ?_
  refine h_get (.int 0) f_J5_22 rfl hj dJ5_newCapacity_0f7a4_54 (by rw [fvB1, hc]) ?_
  refine h_ishr dJ5_newCapacity_0f7a4_57 ?_
  rw [sb_shr0]
  exact h_iret rfl dJ5_newCapacity_0f7a4_58 ⟨rfl, rfl⟩
theorem j_copyOf {v : gV} {τ : gT} {w : gT1} {j : Nat} (hj : j = 554 ∨ j = 557) {N : Nat} (hmN : w.2.1 < N) (hN : N ≤ 65536) (hf : sb_Fit w.2.2.1) (hd : 3 ≤ d) : HC E m_J7_copyOf_9075b d 1 N [.ref w.1, .int (nI N)] (v, ts τ j w, []) (fun o ρ' => ∃ q : Nat, o = some (.ref q) ∧ ρ' = (v, ts τ j w, [(q, .inl (gar E 6, N, .inl (va_cpy w.2.2.1 (fun _ => 0) 0 0 w.2.1)))])) := by
  have hne : ¬ nI N = nI w.2.1 := fun h => by
    rw [nI_eq (by omega) (by omega)] at h
    omega
  refine HC.of ok_J7_copyOf_9075b rfl (Nat.le_of_ble_eq_true rfl) ?_
  refine h_iload_n 1 dJ7_copyOf_9075b_0 rfl ?_
  refine h_aload_n 0 dJ7_copyOf_9075b_1 rfl ?_
  refine h_lenW (nI w.2.1) hj rfl dJ7_copyOf_9075b_2 ?_
  refine h_icmp_ne 14 dJ7_copyOf_9075b_3 (by decide) (fun _ => ?_) (fun h => absurd h hne)
  refine h_iload_n 1 dJ7_copyOf_9075b_14 rfl ?_
  refine h_newb (ρ := (v, ts τ j w, [])) rfl hN (Nat.le_refl _) (Nat.le_refl _) ab_ rfl dJ7_copyOf_9075b_15 (fun q => ?_)
  refine h_astore_n [(2, .ref q), (0, .ref w.1), (1, .int (nI N))] dJ7_copyOf_9075b_17 rfl (by decide) rfl ?_
  refine h_aload_n 1 dJ7_copyOf_9075b_18 rfl ?_
  refine h_iconst dJ7_copyOf_9075b_19 (0 : Int32) (by decide) ?_
  refine h_aload_n 0 dJ7_copyOf_9075b_20 rfl ?_
  refine h_iconst dJ7_copyOf_9075b_21 (0 : Int32) (by decide) ?_
  refine h_aload_n 1 dJ7_copyOf_9075b_22 rfl ?_
  refine h_lenW (nI w.2.1) hj rfl dJ7_copyOf_9075b_23 ?_
  refine h_iload_n 2 dJ7_copyOf_9075b_24 rfl ?_
  refine h_mmin mw_J7_304 rfl (Nat.le_of_ble_eq_true rfl) (by omega) dJ7_copyOf_9075b_25 ?_
  rw [if_neg (nI_nlt (Nat.le_of_lt hmN) (by omega))]
  refine h_copyb (q0 := j + 1) (q1 := 572) ac_J7_150 rfl (v, ts τ j w, [(q, .inl (gar E 6, N, .inl (va_cpy w.2.2.1 (fun _ => 0) 0 0 w.2.1)))]) (hws_w hj) (hws_x (ρ := (v, ts τ j w, []))) (nI_pos (by omega)) (by rw [nI_clamp (by omega)]; exact Nat.le_refl _) (by rw [nI_clamp (by omega)]; omega) hf (by rw [nI_clamp (by omega)]; exact hws_xset) (Nat.le_of_ble_eq_true rfl) (by omega) dJ7_copyOf_9075b_28 ?_
  refine h_aload_n 0 dJ7_copyOf_9075b_31 rfl ?_
  exact h_aretA rfl dJ7_copyOf_9075b_32 ⟨q, rfl, rfl⟩
theorem j_ensure {v : gV} {τ : gT} {w : gT1} {j : Nat} (hj : j = 554 ∨ j = 557) (hc : v.1 j 1 = 0) {q : Nat} (hq : q ≤ 120) (hm : w.2.1 ≤ 256) (hf : sb_Fit w.2.2.1) (hd : 4 ≤ d) : HC E m_J5_ensureCapacityInternal_d00df d 1 256 [.ref (gX E + j), .int (nI q)] (v, ts τ j w, []) (fun o ρ' => o = none ∧ ∃ w' : gT1, ρ' = (v, ts τ j w', []) ∧ q ≤ w'.2.1 ∧ w'.2.1 ≤ 256 ∧ w'.2.2.2 = w.2.2.2 ∧ sb_Fit w'.2.2.1 ∧ ∀ i, i < w.2.1 → w'.2.2.1 i = w.2.2.1 i) := by
  refine HC.of ok_J5_ensureCapacityInternal_d00df rfl (Nat.le_of_ble_eq_true rfl) ?_
  by_cases hle : q ≤ w.2.1
  · refine h_aload_n 0 dJ5_ensureCapacityInternal_d00df_0 rfl ?_
    refine h_get (.ref w.1) f_J5_15 rfl hj dJ5_ensureCapacityInternal_d00df_1 fvV ?_
    refine h_lenW (nI w.2.1) hj rfl dJ5_ensureCapacityInternal_d00df_4 ?_
    refine h_aload_n 0 dJ5_ensureCapacityInternal_d00df_5 rfl ?_
    refine h_get (.int 0) f_J5_22 rfl hj dJ5_ensureCapacityInternal_d00df_6 (by rw [fvB1, hc]) ?_
    refine h_ishr dJ5_ensureCapacityInternal_d00df_9 ?_
    rw [sb_shr0]
    refine h_istore_n [(2, .int (nI w.2.1)), (0, .ref (gX E + j)), (1, .int (nI q))] dJ5_ensureCapacityInternal_d00df_10 rfl (by decide) rfl ?_
    refine h_iload_n 2 dJ5_ensureCapacityInternal_d00df_11 rfl ?_
    refine h_iload_n 0 dJ5_ensureCapacityInternal_d00df_12 rfl ?_
    refine h_isub dJ5_ensureCapacityInternal_d00df_13 ?_
    refine h_if_le 38 dJ5_ensureCapacityInternal_d00df_14 (by decide) (fun _ => ?_) (fun h => absurd (nI_subLe hle (by omega)) h)
    exact h_vret rfl dJ5_ensureCapacityInternal_d00df_38 ⟨rfl, w, rfl, hle, hm, rfl, hf, fun _ _ => rfl⟩
  · have hlt : w.2.1 < q := by omega
    have hlt2 : w.2.1 < sb_cap q w.2.1 := Nat.lt_of_lt_of_le hlt (sb_cap_ge _ _)
    have hcn : sb_cap q w.2.1 ≤ 256 := by
      unfold sb_cap
      repeat' split
      all_goals omega
    refine h_aload_n 0 dJ5_ensureCapacityInternal_d00df_0 rfl ?_
    refine h_get (.ref w.1) f_J5_15 rfl hj dJ5_ensureCapacityInternal_d00df_1 fvV ?_
    refine h_lenW (nI w.2.1) hj rfl dJ5_ensureCapacityInternal_d00df_4 ?_
    refine h_aload_n 0 dJ5_ensureCapacityInternal_d00df_5 rfl ?_
    refine h_get (.int 0) f_J5_22 rfl hj dJ5_ensureCapacityInternal_d00df_6 (by rw [fvB1, hc]) ?_
    refine h_ishr dJ5_ensureCapacityInternal_d00df_9 ?_
    rw [sb_shr0]
    refine h_istore_n [(2, .int (nI w.2.1)), (0, .ref (gX E + j)), (1, .int (nI q))] dJ5_ensureCapacityInternal_d00df_10 rfl (by decide) rfl ?_
    refine h_iload_n 2 dJ5_ensureCapacityInternal_d00df_11 rfl ?_
    refine h_iload_n 0 dJ5_ensureCapacityInternal_d00df_12 rfl ?_
    refine h_isub dJ5_ensureCapacityInternal_d00df_13 ?_
    rw [nI_subN (Nat.le_of_lt hlt)]
    refine h_if_le 38 dJ5_ensureCapacityInternal_d00df_14 (by decide) (fun h => absurd h (nI_nle (by omega) (by omega))) (fun _ => ?_)
    refine h_aload_n 1 dJ5_ensureCapacityInternal_d00df_17 rfl ?_
    refine h_aload_n 1 dJ5_ensureCapacityInternal_d00df_18 rfl ?_
    refine h_get (.ref w.1) f_J5_15 rfl hj dJ5_ensureCapacityInternal_d00df_19 fvV ?_
    refine h_aload_n 1 dJ5_ensureCapacityInternal_d00df_22 rfl ?_
    refine h_iload_n 2 dJ5_ensureCapacityInternal_d00df_23 rfl ?_
    refine h_callU (rest := [.ref w.1, .ref (gX E + j)]) s_J5_104 rfl (j_newCapacity (d := d - 1) hj hc hlt (by omega) (by omega) (by omega)) hj rfl rfl (Nat.le_of_ble_eq_true rfl) (show d - 1 + 1 ≤ d by omega) (Nat.zero_le _) (Nat.zero_le _) dJ5_ensureCapacityInternal_d00df_24 ?_
    rintro _ _ ⟨rfl, rfl⟩
    refine h_aload_n 1 dJ5_ensureCapacityInternal_d00df_27 rfl ?_
    refine h_get (.int 0) f_J5_22 rfl hj dJ5_ensureCapacityInternal_d00df_28 (by rw [fvB1, hc]) ?_
    refine h_ishl dJ5_ensureCapacityInternal_d00df_31 ?_
    rw [sb_shl0]
    refine h_callS (rest := [.ref (gX E + j)]) s_J5_108 rfl (j_copyOf (d := d - 1) hj hlt2 (sb_capB (by omega) (by omega)) hf (by omega)) rfl rfl (Nat.le_of_ble_eq_true rfl) (show d - 1 + 1 ≤ d by omega) (Nat.le_refl _) hcn dJ5_ensureCapacityInternal_d00df_32 ?_
    rintro _ _ ⟨qa, rfl, rfl⟩
    refine h_putv pf_J5_15 rfl hj dJ5_ensureCapacityInternal_d00df_35 ?_
    exact h_vret rfl dJ5_ensureCapacityInternal_d00df_38 ⟨rfl, (qa, sb_cap q w.2.1, va_cpy w.2.2.1 (fun _ => 0) 0 0 w.2.1, w.2.2.2), rfl, sb_cap_ge _ _, hcn, rfl, sb_fitC hf sb_fit0, fun i hi => sb_cpy0 (f := w.2.2.1) (g := fun _ => 0) hi⟩
end JDK
