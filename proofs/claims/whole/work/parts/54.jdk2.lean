/-! JDK's own methods on texts, 2: letters and numbers put behind (wip/whole/gen_jdk2.py) -/
section JDK2
variable {E : gE} {d : Nat}
theorem j_appendC5 {v : gV} {τ : gT} {w : gT1} {j : Nat} (hj : j = 554 ∨ j = 557) (hc : v.1 j 1 = 0) {n c : Nat} (hn : v.1 j 3 = nI n) (hn0 : n ≤ 110) (hnm : n ≤ w.2.1) (hc256 : c < 256) (hm : w.2.1 ≤ 256) (hf : sb_Fit w.2.2.1) (hd : 5 ≤ d) : HC E m_J5_append_3fe6f d 1 256 [.ref (gX E + j), .int (nI c)] (v, ts τ j w, []) (fun o ρ' => o = some (.ref (gX E + j)) ∧ ∃ w2 : gT1, ρ' = (vM v j 3 (nI (n + 1)), ts τ j w2, []) ∧ n + 1 ≤ w2.2.1 ∧ w2.2.1 ≤ 256 ∧ w2.2.2.2 = w.2.2.2 ∧ sb_Fit w2.2.2.1 ∧ (∀ i, i < n → w2.2.2.1 i = w.2.2.1 i) ∧ w2.2.2.1 n = sb_b c) := by
  refine HC.of ok_J5_append_3fe6f rfl (Nat.le_of_ble_eq_true rfl) ?_
  refine h_aload_n 0 dJ5_append_3fe6f_0 rfl ?_
  refine h_aload_n 0 dJ5_append_3fe6f_1 rfl ?_
  refine h_get (.int (nI n)) f_J5_79 rfl hj dJ5_append_3fe6f_2 (by rw [fvB3]; exact congrArg Value.int hn) ?_
  refine h_iconst dJ5_append_3fe6f_5 (1 : Int32) (by decide) ?_
  refine h_iadd dJ5_append_3fe6f_6 ?_
  rw [nI_1]
  refine h_callU (rest := []) s_J5_100 rfl (j_ensure (d := d - 1) (q := n + 1) hj hc (by omega) hm hf (by omega)) hj rfl rfl (Nat.le_of_ble_eq_true rfl) (show d - 1 + 1 ≤ d by omega) (Nat.le_refl _) (Nat.le_refl _) dJ5_append_3fe6f_7 ?_
  rintro _ _ ⟨rfl, w', rfl, g1, g2, g3, g4, g5⟩
  refine h_aload_n 0 dJ5_append_3fe6f_10 rfl ?_
  refine h_callU (rest := []) s_J5_83 rfl (j_isLatin1 (d := d - 1) (w := w') hj hc (by omega)) hj rfl rfl (Nat.le_of_ble_eq_true rfl) (show d - 1 + 1 ≤ d by omega) (Nat.zero_le _) (Nat.zero_le _) dJ5_append_3fe6f_11 ?_
  rintro _ _ ⟨rfl, rfl⟩
  refine h_if_eq 45 dJ5_append_3fe6f_14 (by decide) (fun h => absurd h (by decide)) (fun _ => ?_)
  refine h_iload_n 1 dJ5_append_3fe6f_17 rfl ?_
  refine h_callS (rest := []) s_J5_191 rfl (j_canEncode (d := d - 1) (nI_le (by omega : c ≤ 255) (by decide)) (by omega)) rfl rfl (Nat.le_of_ble_eq_true rfl) (show d - 1 + 1 ≤ d by omega) (Nat.zero_le _) (Nat.zero_le _) dJ5_append_3fe6f_18 ?_
  rintro _ _ ⟨rfl, rfl⟩
  refine h_if_eq 45 dJ5_append_3fe6f_21 (by decide) (fun h => absurd h (by decide)) (fun _ => ?_)
  refine h_aload_n 0 dJ5_append_3fe6f_24 rfl ?_
  refine h_get (.ref w'.1) f_J5_15 rfl hj dJ5_append_3fe6f_25 fvV ?_
  refine h_aload_n 0 dJ5_append_3fe6f_28 rfl ?_
  refine h_dup dJ5_append_3fe6f_29 rfl ?_
  refine h_get (.int (nI n)) f_J5_79 rfl hj dJ5_append_3fe6f_30 (by rw [fvB3]; exact congrArg Value.int hn) ?_
  refine h_dup_x1 dJ5_append_3fe6f_33 rfl rfl ?_
  refine h_iconst dJ5_append_3fe6f_34 (1 : Int32) (by decide) ?_
  refine h_iadd dJ5_append_3fe6f_35 ?_
  rw [nI_1]
  refine h_putc pf_J5_79 rfl hj dJ5_append_3fe6f_36 ?_
  refine h_iload_n 1 dJ5_append_3fe6f_39 rfl ?_
  refine h_i2b dJ5_append_3fe6f_40 ?_
  refine h_bastW (upd w'.2.2.1 n (sb_b c)) hj (vp_in_nI (by omega) (by omega)) (by rw [nI_clamp (by omega), (sb_nar c hc256).1]) dJ5_append_3fe6f_41 ?_
  refine h_goto 75 dJ5_append_3fe6f_42 (by decide) ?_
  refine h_aload_n 0 dJ5_append_3fe6f_75 rfl ?_
  exact h_aret rfl dJ5_append_3fe6f_76 ⟨rfl, _, rfl, g1, g2, g3, sb_fitU g4 (sb_fitB c), fun i hi => by show upd w'.2.2.1 n (sb_b c) i = _; rw [pk_un (by omega)]; exact g5 i (by omega), pk_us⟩
theorem j_appendC {v : gV} {τ : gT} {w : gT1} {j : Nat} (hj : j = 554 ∨ j = 557) (hc : v.1 j 1 = 0) {n c : Nat} (hn : v.1 j 3 = nI n) (hn0 : n ≤ 110) (hnm : n ≤ w.2.1) (hc256 : c < 256) (hm : w.2.1 ≤ 256) (hf : sb_Fit w.2.2.1) (hd : 6 ≤ d) : HC E m_J4_append_cf468 d 1 256 [.ref (gX E + j), .int (nI c)] (v, ts τ j w, []) (fun o ρ' => o = some (.ref (gX E + j)) ∧ ∃ w2 : gT1, ρ' = (vM v j 3 (nI (n + 1)), ts τ j w2, []) ∧ n + 1 ≤ w2.2.1 ∧ w2.2.1 ≤ 256 ∧ w2.2.2.2 = w.2.2.2 ∧ sb_Fit w2.2.2.1 ∧ (∀ i, i < n → w2.2.2.1 i = w.2.2.1 i) ∧ w2.2.2.1 n = sb_b c) := by
  refine HC.of ok_J4_append_cf468 rfl (Nat.le_of_ble_eq_true rfl) ?_
  refine h_aload_n 0 dJ4_append_cf468_0 rfl ?_
  refine h_iload_n 1 dJ4_append_cf468_1 rfl ?_
  refine h_callX (rest := []) s_J4_50 rfl (j_appendC5 (d := d - 1) hj hc hn hn0 hnm hc256 hm hf (by omega)) hj rfl rfl (Nat.le_of_ble_eq_true rfl) (show d - 1 + 1 ≤ d by omega) (Nat.le_refl _) (Nat.le_refl _) dJ4_append_cf468_2 ?_
  rintro _ _ ⟨rfl, w2, rfl, h2⟩
  refine h_pop dJ4_append_cf468_5 rfl ?_
  refine h_aload_n 0 dJ4_append_cf468_6 rfl ?_
  exact h_aret rfl dJ4_append_cf468_7 ⟨rfl, w2, rfl, h2⟩
theorem j_stringSize {ρ : hS} {x : Nat} (hx : x < 2 ^ 31) (hd : 1 ≤ d) : HC E m_J6_stringSize_0f7a4 d 0 0 [.int (nI x)] ρ (fun o ρ' => o = some (.int (nI (sb_dg x))) ∧ ρ' = ρ) := by
  refine HC.of ok_J6_stringSize_0f7a4 rfl (Nat.le_of_ble_eq_true rfl) ?_
  refine h_iconst dJ6_stringSize_0f7a4_0 (1 : Int32) (by decide) ?_
  refine h_istore_n [(1, .int (1 : Int32)), (0, .int (nI x))] dJ6_stringSize_0f7a4_1 rfl (by decide) rfl ?_
  refine h_iload_n 1 dJ6_stringSize_0f7a4_2 rfl ?_
  refine h_if_lt 11 dJ6_stringSize_0f7a4_3 (by decide) (fun h => absurd h (nI_pos hx)) (fun _ => ?_)
  refine h_iconst dJ6_stringSize_0f7a4_6 (0 : Int32) (by decide) ?_
  refine h_istore_n [(1, .int (0 : Int32)), (0, .int (nI x))] dJ6_stringSize_0f7a4_7 rfl (by decide) rfl ?_
  refine h_iload_n 1 dJ6_stringSize_0f7a4_8 rfl ?_
  refine h_ineg dJ6_stringSize_0f7a4_9 ?_
  refine h_istore_n [(0, .int (-(nI x))), (1, .int (0 : Int32))] dJ6_stringSize_0f7a4_10 rfl (by decide) rfl ?_
  refine h_bipush dJ6_stringSize_0f7a4_11 (-10 : Int32) (by decide) ?_
  refine h_istore_n [(2, .int (-10 : Int32)), (0, .int (-(nI x))), (1, .int (0 : Int32))] dJ6_stringSize_0f7a4_13 rfl (by decide) rfl ?_
  refine h_iconst dJ6_stringSize_0f7a4_14 (1 : Int32) (by decide) ?_
  refine h_istore_n [(3, .int (1 : Int32)), (2, .int (-10 : Int32)), (0, .int (-(nI x))), (1, .int (0 : Int32))] dJ6_stringSize_0f7a4_15 rfl (by decide) rfl ?_
  by_cases h1 : x < 10
  · refine h_iload_n 0 dJ6_stringSize_0f7a4_16 rfl ?_
    refine h_bipush dJ6_stringSize_0f7a4_17 (10 : Int32) (by decide) ?_
    refine h_icmp_ge 42 dJ6_stringSize_0f7a4_19 (by decide) (fun h => absurd h (by decide)) (fun _ => ?_)
    refine h_iload_n 2 dJ6_stringSize_0f7a4_22 rfl ?_
    refine h_iload_n 1 dJ6_stringSize_0f7a4_23 rfl ?_
    refine h_icmp_le 31 dJ6_stringSize_0f7a4_24 (by decide) (fun h => absurd ((sb_nle (a := x) (b := 10) hx (by decide)).mp h) (by omega)) (fun _ => ?_)
    refine h_iload_n 0 dJ6_stringSize_0f7a4_27 rfl ?_
    refine h_iload_n 3 dJ6_stringSize_0f7a4_28 rfl ?_
    refine h_iadd dJ6_stringSize_0f7a4_29 ?_
    rw [show ((1 : Int32) + (0 : Int32)) = nI (sb_dg x) from by rw [show sb_dg x = 1 from by unfold sb_dg; (repeat' split) <;> omega]; decide]
    exact h_iret rfl dJ6_stringSize_0f7a4_30 ⟨rfl, rfl⟩
  refine h_iload_n 0 dJ6_stringSize_0f7a4_16 rfl ?_
  refine h_bipush dJ6_stringSize_0f7a4_17 (10 : Int32) (by decide) ?_
  refine h_icmp_ge 42 dJ6_stringSize_0f7a4_19 (by decide) (fun h => absurd h (by decide)) (fun _ => ?_)
  refine h_iload_n 2 dJ6_stringSize_0f7a4_22 rfl ?_
  refine h_iload_n 1 dJ6_stringSize_0f7a4_23 rfl ?_
  refine h_icmp_le 31 dJ6_stringSize_0f7a4_24 (by decide) (fun _ => ?_) (fun h => absurd ((sb_nle (a := x) (b := 10) hx (by decide)).mpr (by omega)) h)
  refine h_bipush dJ6_stringSize_0f7a4_31 (10 : Int32) (by decide) ?_
  refine h_iload_n 1 dJ6_stringSize_0f7a4_33 rfl ?_
  refine h_imul dJ6_stringSize_0f7a4_34 ?_
  rw [show ((10 : Int32) * (-10 : Int32)) = (-100 : Int32) from by decide]
  refine h_istore_n [(2, .int (-100 : Int32)), (3, .int (1 : Int32)), (0, .int (-(nI x))), (1, .int (0 : Int32))] dJ6_stringSize_0f7a4_35 rfl (by decide) rfl ?_
  refine h_iinc 1 ((2 : Int32)) [(3, .int ((2 : Int32))), (2, .int (-100 : Int32)), (0, .int (-(nI x))), (1, .int (0 : Int32))] dJ6_stringSize_0f7a4_36 rfl (by decide) (by decide) rfl ?_
  refine h_goto 16 dJ6_stringSize_0f7a4_39 (by decide) ?_
  by_cases h2 : x < 100
  · refine h_iload_n 0 dJ6_stringSize_0f7a4_16 rfl ?_
    refine h_bipush dJ6_stringSize_0f7a4_17 (10 : Int32) (by decide) ?_
    refine h_icmp_ge 42 dJ6_stringSize_0f7a4_19 (by decide) (fun h => absurd h (by decide)) (fun _ => ?_)
    refine h_iload_n 2 dJ6_stringSize_0f7a4_22 rfl ?_
    refine h_iload_n 1 dJ6_stringSize_0f7a4_23 rfl ?_
    refine h_icmp_le 31 dJ6_stringSize_0f7a4_24 (by decide) (fun h => absurd ((sb_nle (a := x) (b := 100) hx (by decide)).mp h) (by omega)) (fun _ => ?_)
    refine h_iload_n 0 dJ6_stringSize_0f7a4_27 rfl ?_
    refine h_iload_n 3 dJ6_stringSize_0f7a4_28 rfl ?_
    refine h_iadd dJ6_stringSize_0f7a4_29 ?_
    rw [show ((2 : Int32) + (0 : Int32)) = nI (sb_dg x) from by rw [show sb_dg x = 2 from by unfold sb_dg; (repeat' split) <;> omega]; decide]
    exact h_iret rfl dJ6_stringSize_0f7a4_30 ⟨rfl, rfl⟩
  refine h_iload_n 0 dJ6_stringSize_0f7a4_16 rfl ?_
  refine h_bipush dJ6_stringSize_0f7a4_17 (10 : Int32) (by decide) ?_
  refine h_icmp_ge 42 dJ6_stringSize_0f7a4_19 (by decide) (fun h => absurd h (by decide)) (fun _ => ?_)
  refine h_iload_n 2 dJ6_stringSize_0f7a4_22 rfl ?_
  refine h_iload_n 1 dJ6_stringSize_0f7a4_23 rfl ?_
  refine h_icmp_le 31 dJ6_stringSize_0f7a4_24 (by decide) (fun _ => ?_) (fun h => absurd ((sb_nle (a := x) (b := 100) hx (by decide)).mpr (by omega)) h)
  refine h_bipush dJ6_stringSize_0f7a4_31 (10 : Int32) (by decide) ?_
  refine h_iload_n 1 dJ6_stringSize_0f7a4_33 rfl ?_
  refine h_imul dJ6_stringSize_0f7a4_34 ?_
  rw [show ((10 : Int32) * (-100 : Int32)) = (-1000 : Int32) from by decide]
  refine h_istore_n [(2, .int (-1000 : Int32)), (3, .int ((2 : Int32))), (0, .int (-(nI x))), (1, .int (0 : Int32))] dJ6_stringSize_0f7a4_35 rfl (by decide) rfl ?_
  refine h_iinc 1 ((3 : Int32)) [(3, .int ((3 : Int32))), (2, .int (-1000 : Int32)), (0, .int (-(nI x))), (1, .int (0 : Int32))] dJ6_stringSize_0f7a4_36 rfl (by decide) (by decide) rfl ?_
  refine h_goto 16 dJ6_stringSize_0f7a4_39 (by decide) ?_
  by_cases h3 : x < 1000
  · refine h_iload_n 0 dJ6_stringSize_0f7a4_16 rfl ?_
    refine h_bipush dJ6_stringSize_0f7a4_17 (10 : Int32) (by decide) ?_
    refine h_icmp_ge 42 dJ6_stringSize_0f7a4_19 (by decide) (fun h => absurd h (by decide)) (fun _ => ?_)
    refine h_iload_n 2 dJ6_stringSize_0f7a4_22 rfl ?_
    refine h_iload_n 1 dJ6_stringSize_0f7a4_23 rfl ?_
    refine h_icmp_le 31 dJ6_stringSize_0f7a4_24 (by decide) (fun h => absurd ((sb_nle (a := x) (b := 1000) hx (by decide)).mp h) (by omega)) (fun _ => ?_)
    refine h_iload_n 0 dJ6_stringSize_0f7a4_27 rfl ?_
    refine h_iload_n 3 dJ6_stringSize_0f7a4_28 rfl ?_
    refine h_iadd dJ6_stringSize_0f7a4_29 ?_
    rw [show ((3 : Int32) + (0 : Int32)) = nI (sb_dg x) from by rw [show sb_dg x = 3 from by unfold sb_dg; (repeat' split) <;> omega]; decide]
    exact h_iret rfl dJ6_stringSize_0f7a4_30 ⟨rfl, rfl⟩
  refine h_iload_n 0 dJ6_stringSize_0f7a4_16 rfl ?_
  refine h_bipush dJ6_stringSize_0f7a4_17 (10 : Int32) (by decide) ?_
  refine h_icmp_ge 42 dJ6_stringSize_0f7a4_19 (by decide) (fun h => absurd h (by decide)) (fun _ => ?_)
  refine h_iload_n 2 dJ6_stringSize_0f7a4_22 rfl ?_
  refine h_iload_n 1 dJ6_stringSize_0f7a4_23 rfl ?_
  refine h_icmp_le 31 dJ6_stringSize_0f7a4_24 (by decide) (fun _ => ?_) (fun h => absurd ((sb_nle (a := x) (b := 1000) hx (by decide)).mpr (by omega)) h)
  refine h_bipush dJ6_stringSize_0f7a4_31 (10 : Int32) (by decide) ?_
  refine h_iload_n 1 dJ6_stringSize_0f7a4_33 rfl ?_
  refine h_imul dJ6_stringSize_0f7a4_34 ?_
  rw [show ((10 : Int32) * (-1000 : Int32)) = (-10000 : Int32) from by decide]
  refine h_istore_n [(2, .int (-10000 : Int32)), (3, .int ((3 : Int32))), (0, .int (-(nI x))), (1, .int (0 : Int32))] dJ6_stringSize_0f7a4_35 rfl (by decide) rfl ?_
  refine h_iinc 1 ((4 : Int32)) [(3, .int ((4 : Int32))), (2, .int (-10000 : Int32)), (0, .int (-(nI x))), (1, .int (0 : Int32))] dJ6_stringSize_0f7a4_36 rfl (by decide) (by decide) rfl ?_
  refine h_goto 16 dJ6_stringSize_0f7a4_39 (by decide) ?_
  by_cases h4 : x < 10000
  · refine h_iload_n 0 dJ6_stringSize_0f7a4_16 rfl ?_
    refine h_bipush dJ6_stringSize_0f7a4_17 (10 : Int32) (by decide) ?_
    refine h_icmp_ge 42 dJ6_stringSize_0f7a4_19 (by decide) (fun h => absurd h (by decide)) (fun _ => ?_)
    refine h_iload_n 2 dJ6_stringSize_0f7a4_22 rfl ?_
    refine h_iload_n 1 dJ6_stringSize_0f7a4_23 rfl ?_
    refine h_icmp_le 31 dJ6_stringSize_0f7a4_24 (by decide) (fun h => absurd ((sb_nle (a := x) (b := 10000) hx (by decide)).mp h) (by omega)) (fun _ => ?_)
    refine h_iload_n 0 dJ6_stringSize_0f7a4_27 rfl ?_
    refine h_iload_n 3 dJ6_stringSize_0f7a4_28 rfl ?_
    refine h_iadd dJ6_stringSize_0f7a4_29 ?_
    rw [show ((4 : Int32) + (0 : Int32)) = nI (sb_dg x) from by rw [show sb_dg x = 4 from by unfold sb_dg; (repeat' split) <;> omega]; decide]
    exact h_iret rfl dJ6_stringSize_0f7a4_30 ⟨rfl, rfl⟩
  refine h_iload_n 0 dJ6_stringSize_0f7a4_16 rfl ?_
  refine h_bipush dJ6_stringSize_0f7a4_17 (10 : Int32) (by decide) ?_
  refine h_icmp_ge 42 dJ6_stringSize_0f7a4_19 (by decide) (fun h => absurd h (by decide)) (fun _ => ?_)
  refine h_iload_n 2 dJ6_stringSize_0f7a4_22 rfl ?_
  refine h_iload_n 1 dJ6_stringSize_0f7a4_23 rfl ?_
  refine h_icmp_le 31 dJ6_stringSize_0f7a4_24 (by decide) (fun _ => ?_) (fun h => absurd ((sb_nle (a := x) (b := 10000) hx (by decide)).mpr (by omega)) h)
  refine h_bipush dJ6_stringSize_0f7a4_31 (10 : Int32) (by decide) ?_
  refine h_iload_n 1 dJ6_stringSize_0f7a4_33 rfl ?_
  refine h_imul dJ6_stringSize_0f7a4_34 ?_
  rw [show ((10 : Int32) * (-10000 : Int32)) = (-100000 : Int32) from by decide]
  refine h_istore_n [(2, .int (-100000 : Int32)), (3, .int ((4 : Int32))), (0, .int (-(nI x))), (1, .int (0 : Int32))] dJ6_stringSize_0f7a4_35 rfl (by decide) rfl ?_
  refine h_iinc 1 ((5 : Int32)) [(3, .int ((5 : Int32))), (2, .int (-100000 : Int32)), (0, .int (-(nI x))), (1, .int (0 : Int32))] dJ6_stringSize_0f7a4_36 rfl (by decide) (by decide) rfl ?_
  refine h_goto 16 dJ6_stringSize_0f7a4_39 (by decide) ?_
  by_cases h5 : x < 100000
  · refine h_iload_n 0 dJ6_stringSize_0f7a4_16 rfl ?_
    refine h_bipush dJ6_stringSize_0f7a4_17 (10 : Int32) (by decide) ?_
    refine h_icmp_ge 42 dJ6_stringSize_0f7a4_19 (by decide) (fun h => absurd h (by decide)) (fun _ => ?_)
    refine h_iload_n 2 dJ6_stringSize_0f7a4_22 rfl ?_
    refine h_iload_n 1 dJ6_stringSize_0f7a4_23 rfl ?_
    refine h_icmp_le 31 dJ6_stringSize_0f7a4_24 (by decide) (fun h => absurd ((sb_nle (a := x) (b := 100000) hx (by decide)).mp h) (by omega)) (fun _ => ?_)
    refine h_iload_n 0 dJ6_stringSize_0f7a4_27 rfl ?_
    refine h_iload_n 3 dJ6_stringSize_0f7a4_28 rfl ?_
    refine h_iadd dJ6_stringSize_0f7a4_29 ?_
    rw [show ((5 : Int32) + (0 : Int32)) = nI (sb_dg x) from by rw [show sb_dg x = 5 from by unfold sb_dg; (repeat' split) <;> omega]; decide]
    exact h_iret rfl dJ6_stringSize_0f7a4_30 ⟨rfl, rfl⟩
  refine h_iload_n 0 dJ6_stringSize_0f7a4_16 rfl ?_
  refine h_bipush dJ6_stringSize_0f7a4_17 (10 : Int32) (by decide) ?_
  refine h_icmp_ge 42 dJ6_stringSize_0f7a4_19 (by decide) (fun h => absurd h (by decide)) (fun _ => ?_)
  refine h_iload_n 2 dJ6_stringSize_0f7a4_22 rfl ?_
  refine h_iload_n 1 dJ6_stringSize_0f7a4_23 rfl ?_
  refine h_icmp_le 31 dJ6_stringSize_0f7a4_24 (by decide) (fun _ => ?_) (fun h => absurd ((sb_nle (a := x) (b := 100000) hx (by decide)).mpr (by omega)) h)
  refine h_bipush dJ6_stringSize_0f7a4_31 (10 : Int32) (by decide) ?_
  refine h_iload_n 1 dJ6_stringSize_0f7a4_33 rfl ?_
  refine h_imul dJ6_stringSize_0f7a4_34 ?_
  rw [show ((10 : Int32) * (-100000 : Int32)) = (-1000000 : Int32) from by decide]
  refine h_istore_n [(2, .int (-1000000 : Int32)), (3, .int ((5 : Int32))), (0, .int (-(nI x))), (1, .int (0 : Int32))] dJ6_stringSize_0f7a4_35 rfl (by decide) rfl ?_
  refine h_iinc 1 ((6 : Int32)) [(3, .int ((6 : Int32))), (2, .int (-1000000 : Int32)), (0, .int (-(nI x))), (1, .int (0 : Int32))] dJ6_stringSize_0f7a4_36 rfl (by decide) (by decide) rfl ?_
  refine h_goto 16 dJ6_stringSize_0f7a4_39 (by decide) ?_
  by_cases h6 : x < 1000000
  · refine h_iload_n 0 dJ6_stringSize_0f7a4_16 rfl ?_
    refine h_bipush dJ6_stringSize_0f7a4_17 (10 : Int32) (by decide) ?_
    refine h_icmp_ge 42 dJ6_stringSize_0f7a4_19 (by decide) (fun h => absurd h (by decide)) (fun _ => ?_)
    refine h_iload_n 2 dJ6_stringSize_0f7a4_22 rfl ?_
    refine h_iload_n 1 dJ6_stringSize_0f7a4_23 rfl ?_
    refine h_icmp_le 31 dJ6_stringSize_0f7a4_24 (by decide) (fun h => absurd ((sb_nle (a := x) (b := 1000000) hx (by decide)).mp h) (by omega)) (fun _ => ?_)
    refine h_iload_n 0 dJ6_stringSize_0f7a4_27 rfl ?_
    refine h_iload_n 3 dJ6_stringSize_0f7a4_28 rfl ?_
    refine h_iadd dJ6_stringSize_0f7a4_29 ?_
    rw [show ((6 : Int32) + (0 : Int32)) = nI (sb_dg x) from by rw [show sb_dg x = 6 from by unfold sb_dg; (repeat' split) <;> omega]; decide]
    exact h_iret rfl dJ6_stringSize_0f7a4_30 ⟨rfl, rfl⟩
  refine h_iload_n 0 dJ6_stringSize_0f7a4_16 rfl ?_
  refine h_bipush dJ6_stringSize_0f7a4_17 (10 : Int32) (by decide) ?_
  refine h_icmp_ge 42 dJ6_stringSize_0f7a4_19 (by decide) (fun h => absurd h (by decide)) (fun _ => ?_)
  refine h_iload_n 2 dJ6_stringSize_0f7a4_22 rfl ?_
  refine h_iload_n 1 dJ6_stringSize_0f7a4_23 rfl ?_
  refine h_icmp_le 31 dJ6_stringSize_0f7a4_24 (by decide) (fun _ => ?_) (fun h => absurd ((sb_nle (a := x) (b := 1000000) hx (by decide)).mpr (by omega)) h)
  refine h_bipush dJ6_stringSize_0f7a4_31 (10 : Int32) (by decide) ?_
  refine h_iload_n 1 dJ6_stringSize_0f7a4_33 rfl ?_
  refine h_imul dJ6_stringSize_0f7a4_34 ?_
  rw [show ((10 : Int32) * (-1000000 : Int32)) = (-10000000 : Int32) from by decide]
  refine h_istore_n [(2, .int (-10000000 : Int32)), (3, .int ((6 : Int32))), (0, .int (-(nI x))), (1, .int (0 : Int32))] dJ6_stringSize_0f7a4_35 rfl (by decide) rfl ?_
  refine h_iinc 1 ((7 : Int32)) [(3, .int ((7 : Int32))), (2, .int (-10000000 : Int32)), (0, .int (-(nI x))), (1, .int (0 : Int32))] dJ6_stringSize_0f7a4_36 rfl (by decide) (by decide) rfl ?_
  refine h_goto 16 dJ6_stringSize_0f7a4_39 (by decide) ?_
  by_cases h7 : x < 10000000
  · refine h_iload_n 0 dJ6_stringSize_0f7a4_16 rfl ?_
    refine h_bipush dJ6_stringSize_0f7a4_17 (10 : Int32) (by decide) ?_
    refine h_icmp_ge 42 dJ6_stringSize_0f7a4_19 (by decide) (fun h => absurd h (by decide)) (fun _ => ?_)
    refine h_iload_n 2 dJ6_stringSize_0f7a4_22 rfl ?_
    refine h_iload_n 1 dJ6_stringSize_0f7a4_23 rfl ?_
    refine h_icmp_le 31 dJ6_stringSize_0f7a4_24 (by decide) (fun h => absurd ((sb_nle (a := x) (b := 10000000) hx (by decide)).mp h) (by omega)) (fun _ => ?_)
    refine h_iload_n 0 dJ6_stringSize_0f7a4_27 rfl ?_
    refine h_iload_n 3 dJ6_stringSize_0f7a4_28 rfl ?_
    refine h_iadd dJ6_stringSize_0f7a4_29 ?_
    rw [show ((7 : Int32) + (0 : Int32)) = nI (sb_dg x) from by rw [show sb_dg x = 7 from by unfold sb_dg; (repeat' split) <;> omega]; decide]
    exact h_iret rfl dJ6_stringSize_0f7a4_30 ⟨rfl, rfl⟩
  refine h_iload_n 0 dJ6_stringSize_0f7a4_16 rfl ?_
  refine h_bipush dJ6_stringSize_0f7a4_17 (10 : Int32) (by decide) ?_
  refine h_icmp_ge 42 dJ6_stringSize_0f7a4_19 (by decide) (fun h => absurd h (by decide)) (fun _ => ?_)
  refine h_iload_n 2 dJ6_stringSize_0f7a4_22 rfl ?_
  refine h_iload_n 1 dJ6_stringSize_0f7a4_23 rfl ?_
  refine h_icmp_le 31 dJ6_stringSize_0f7a4_24 (by decide) (fun _ => ?_) (fun h => absurd ((sb_nle (a := x) (b := 10000000) hx (by decide)).mpr (by omega)) h)
  refine h_bipush dJ6_stringSize_0f7a4_31 (10 : Int32) (by decide) ?_
  refine h_iload_n 1 dJ6_stringSize_0f7a4_33 rfl ?_
  refine h_imul dJ6_stringSize_0f7a4_34 ?_
  rw [show ((10 : Int32) * (-10000000 : Int32)) = (-100000000 : Int32) from by decide]
  refine h_istore_n [(2, .int (-100000000 : Int32)), (3, .int ((7 : Int32))), (0, .int (-(nI x))), (1, .int (0 : Int32))] dJ6_stringSize_0f7a4_35 rfl (by decide) rfl ?_
  refine h_iinc 1 ((8 : Int32)) [(3, .int ((8 : Int32))), (2, .int (-100000000 : Int32)), (0, .int (-(nI x))), (1, .int (0 : Int32))] dJ6_stringSize_0f7a4_36 rfl (by decide) (by decide) rfl ?_
  refine h_goto 16 dJ6_stringSize_0f7a4_39 (by decide) ?_
  by_cases h8 : x < 100000000
  · refine h_iload_n 0 dJ6_stringSize_0f7a4_16 rfl ?_
    refine h_bipush dJ6_stringSize_0f7a4_17 (10 : Int32) (by decide) ?_
    refine h_icmp_ge 42 dJ6_stringSize_0f7a4_19 (by decide) (fun h => absurd h (by decide)) (fun _ => ?_)
    refine h_iload_n 2 dJ6_stringSize_0f7a4_22 rfl ?_
    refine h_iload_n 1 dJ6_stringSize_0f7a4_23 rfl ?_
    refine h_icmp_le 31 dJ6_stringSize_0f7a4_24 (by decide) (fun h => absurd ((sb_nle (a := x) (b := 100000000) hx (by decide)).mp h) (by omega)) (fun _ => ?_)
    refine h_iload_n 0 dJ6_stringSize_0f7a4_27 rfl ?_
    refine h_iload_n 3 dJ6_stringSize_0f7a4_28 rfl ?_
    refine h_iadd dJ6_stringSize_0f7a4_29 ?_
    rw [show ((8 : Int32) + (0 : Int32)) = nI (sb_dg x) from by rw [show sb_dg x = 8 from by unfold sb_dg; (repeat' split) <;> omega]; decide]
    exact h_iret rfl dJ6_stringSize_0f7a4_30 ⟨rfl, rfl⟩
  refine h_iload_n 0 dJ6_stringSize_0f7a4_16 rfl ?_
  refine h_bipush dJ6_stringSize_0f7a4_17 (10 : Int32) (by decide) ?_
  refine h_icmp_ge 42 dJ6_stringSize_0f7a4_19 (by decide) (fun h => absurd h (by decide)) (fun _ => ?_)
  refine h_iload_n 2 dJ6_stringSize_0f7a4_22 rfl ?_
  refine h_iload_n 1 dJ6_stringSize_0f7a4_23 rfl ?_
  refine h_icmp_le 31 dJ6_stringSize_0f7a4_24 (by decide) (fun _ => ?_) (fun h => absurd ((sb_nle (a := x) (b := 100000000) hx (by decide)).mpr (by omega)) h)
  refine h_bipush dJ6_stringSize_0f7a4_31 (10 : Int32) (by decide) ?_
  refine h_iload_n 1 dJ6_stringSize_0f7a4_33 rfl ?_
  refine h_imul dJ6_stringSize_0f7a4_34 ?_
  rw [show ((10 : Int32) * (-100000000 : Int32)) = (-1000000000 : Int32) from by decide]
  refine h_istore_n [(2, .int (-1000000000 : Int32)), (3, .int ((8 : Int32))), (0, .int (-(nI x))), (1, .int (0 : Int32))] dJ6_stringSize_0f7a4_35 rfl (by decide) rfl ?_
  refine h_iinc 1 ((9 : Int32)) [(3, .int ((9 : Int32))), (2, .int (-1000000000 : Int32)), (0, .int (-(nI x))), (1, .int (0 : Int32))] dJ6_stringSize_0f7a4_36 rfl (by decide) (by decide) rfl ?_
  refine h_goto 16 dJ6_stringSize_0f7a4_39 (by decide) ?_
  by_cases h9 : x < 1000000000
  · refine h_iload_n 0 dJ6_stringSize_0f7a4_16 rfl ?_
    refine h_bipush dJ6_stringSize_0f7a4_17 (10 : Int32) (by decide) ?_
    refine h_icmp_ge 42 dJ6_stringSize_0f7a4_19 (by decide) (fun h => absurd h (by decide)) (fun _ => ?_)
    refine h_iload_n 2 dJ6_stringSize_0f7a4_22 rfl ?_
    refine h_iload_n 1 dJ6_stringSize_0f7a4_23 rfl ?_
    refine h_icmp_le 31 dJ6_stringSize_0f7a4_24 (by decide) (fun h => absurd ((sb_nle (a := x) (b := 1000000000) hx (by decide)).mp h) (by omega)) (fun _ => ?_)
    refine h_iload_n 0 dJ6_stringSize_0f7a4_27 rfl ?_
    refine h_iload_n 3 dJ6_stringSize_0f7a4_28 rfl ?_
    refine h_iadd dJ6_stringSize_0f7a4_29 ?_
    rw [show ((9 : Int32) + (0 : Int32)) = nI (sb_dg x) from by rw [show sb_dg x = 9 from by unfold sb_dg; (repeat' split) <;> omega]; decide]
    exact h_iret rfl dJ6_stringSize_0f7a4_30 ⟨rfl, rfl⟩
  refine h_iload_n 0 dJ6_stringSize_0f7a4_16 rfl ?_
  refine h_bipush dJ6_stringSize_0f7a4_17 (10 : Int32) (by decide) ?_
  refine h_icmp_ge 42 dJ6_stringSize_0f7a4_19 (by decide) (fun h => absurd h (by decide)) (fun _ => ?_)
  refine h_iload_n 2 dJ6_stringSize_0f7a4_22 rfl ?_
  refine h_iload_n 1 dJ6_stringSize_0f7a4_23 rfl ?_
  refine h_icmp_le 31 dJ6_stringSize_0f7a4_24 (by decide) (fun _ => ?_) (fun h => absurd ((sb_nle (a := x) (b := 1000000000) hx (by decide)).mpr (by omega)) h)
  refine h_bipush dJ6_stringSize_0f7a4_31 (10 : Int32) (by decide) ?_
  refine h_iload_n 1 dJ6_stringSize_0f7a4_33 rfl ?_
  refine h_imul dJ6_stringSize_0f7a4_34 ?_
  rw [show ((10 : Int32) * (-1000000000 : Int32)) = (-10000000000 : Int32) from by decide]
  refine h_istore_n [(2, .int (-10000000000 : Int32)), (3, .int ((9 : Int32))), (0, .int (-(nI x))), (1, .int (0 : Int32))] dJ6_stringSize_0f7a4_35 rfl (by decide) rfl ?_
  refine h_iinc 1 ((10 : Int32)) [(3, .int ((10 : Int32))), (2, .int (-10000000000 : Int32)), (0, .int (-(nI x))), (1, .int (0 : Int32))] dJ6_stringSize_0f7a4_36 rfl (by decide) (by decide) rfl ?_
  refine h_goto 16 dJ6_stringSize_0f7a4_39 (by decide) ?_
  refine h_iload_n 0 dJ6_stringSize_0f7a4_16 rfl ?_
  refine h_bipush dJ6_stringSize_0f7a4_17 (10 : Int32) (by decide) ?_
  refine h_icmp_ge 42 dJ6_stringSize_0f7a4_19 (by decide) (fun _ => ?_) (fun h => absurd (Int32.le_refl _) h)
  refine h_bipush dJ6_stringSize_0f7a4_42 (10 : Int32) (by decide) ?_
  refine h_iload_n 3 dJ6_stringSize_0f7a4_44 rfl ?_
  refine h_iadd dJ6_stringSize_0f7a4_45 ?_
  rw [show ((10 : Int32) + (0 : Int32)) = nI (sb_dg x) from by rw [show sb_dg x = 10 from by unfold sb_dg; (repeat' split) <;> omega]; decide]
  exact h_iret rfl dJ6_stringSize_0f7a4_46 ⟨rfl, rfl⟩
theorem j_getCharsL {Q : Option Value → hS → Prop} {v : gV} {τ : gT} {j : Nat} (hj : j = 554 ∨ j = 557) {n : Nat} (hd : 1 ≤ d) : ∀ (f x p : Nat) (w : gT1), x < f → x < 2 ^ 31 → p = n + sb_dg x → p ≤ w.2.1 → w.2.1 ≤ 256 →
    (∀ a' : Nat → Int32, (∀ i, i < n ∨ p ≤ i → a' i = w.2.2.1 i) → (∀ i, i < sb_dg x → a' (p - 1 - i) = sb_b (48 + x / 10 ^ i % 10)) → (sb_Fit w.2.2.1 → sb_Fit a') → Q (some (.int (nI n))) (v, ts τ j (w.1, w.2.1, a', w.2.2.2), [])) →
    hG E m_J6_getChars_ba4f3 d Q 0 0 (v, ts τ j w, []) 22 [(0, .int (-nI x)), (2, .ref w.1), (5, .int (nI p)), (6, .int 0)] [] := by
  intro f
  induction f with
  | zero =>
    intro x p w h
    omega
  | succ f ih =>
    intro x p w hxf hx hp hpm hm hQ
    have hd1 := (sb_dg_in x).1
    by_cases h100 : x < 100
    · refine h_iload_n 0 dJ6_getChars_ba4f3_22 rfl ?_
      refine h_bipush dJ6_getChars_ba4f3_23 (-100 : Int32) (by decide) ?_
      refine h_icmp_gt 72 dJ6_getChars_ba4f3_25 (by decide) (fun _ => ?_) (fun h => absurd ((sb_nlt (a := 100) (b := x) (by decide) hx).mpr h100) h)
      refine h_aload_n 1 dJ6_getChars_ba4f3_72 rfl ?_
      refine h_iinc 2 (nI (p - 1)) [(5, .int (nI (p - 1))), (0, .int (-nI x)), (2, .ref w.1), (6, .int (0 : Int32))] dJ6_getChars_ba4f3_73 rfl (sb_m1 (by omega)) (by decide) rfl ?_
      refine h_iload 0 dJ6_getChars_ba4f3_76 rfl ?_
      refine h_gets (fun s h => gvb_1 h) lk_J6_83 rfl dJ6_getChars_ba4f3_78 ?_
      refine h_iload_n 1 dJ6_getChars_ba4f3_81 rfl ?_
      refine h_ineg dJ6_getChars_ba4f3_82 ?_
      rw [Int32.neg_neg]
      refine h_tb (.int (nI (48 + x % 10))) (fun s h => gvb_1t h) (vp_in_nI h100 (by decide)) (by rw [nI_clamp hx]) dJ6_getChars_ba4f3_83 ?_
      refine h_bastW (upd w.2.2.1 (p - 1) (sb_b (48 + x % 10))) hj (vp_in_nI (by show _ < w.2.1; omega) (show w.2.1 < 2 ^ 31 by omega)) (by rw [nI_clamp (by omega), (sb_nar _ (by omega)).2]) dJ6_getChars_ba4f3_84 ?_
      by_cases h9 : x < 10
      · have hdg : sb_dg x = 1 := if_pos h9
        refine h_iload_n 1 dJ6_getChars_ba4f3_85 rfl ?_
        refine h_bipush dJ6_getChars_ba4f3_86 (-9 : Int32) (by decide) ?_
        refine h_icmp_ge 104 dJ6_getChars_ba4f3_88 (by decide) (fun _ => ?_) (fun h => absurd ((sb_nle (a := 9) (b := x) (by decide) hx).mpr (by omega)) h)
        refine h_iload 3 dJ6_getChars_ba4f3_104 rfl ?_
        refine h_if_eq 118 dJ6_getChars_ba4f3_106 (by decide) (fun _ => ?_) (fun h => absurd rfl h)
        refine h_iload 0 dJ6_getChars_ba4f3_118 rfl ?_
        rw [show nI (p - 1) = nI n from congrArg nI (by omega)]
        refine h_iret rfl dJ6_getChars_ba4f3_120 (hQ _ (fun i hi => pk_un (by omega)) (fun i hi => ?_) (fun hf => sb_fitU hf (sb_fitB _)))
        obtain rfl : i = 0 := by omega
        rw [Nat.sub_zero, pk_us, Nat.pow_zero, Nat.div_one]
      · have hdg : sb_dg x = 2 := by rw [sb_dg, if_neg h9, if_pos h100]
        have d2 : x / 10 % 10 = x / 10 := by omega
        refine h_iload_n 1 dJ6_getChars_ba4f3_85 rfl ?_
        refine h_bipush dJ6_getChars_ba4f3_86 (-9 : Int32) (by decide) ?_
        refine h_icmp_ge 104 dJ6_getChars_ba4f3_88 (by decide) (fun h => absurd ((sb_nle (a := 9) (b := x) (by decide) hx).mp h) (by omega)) (fun _ => ?_)
        refine h_aload_n 2 dJ6_getChars_ba4f3_91 rfl ?_
        refine h_iinc 0 (nI (p - 1 - 1)) [(5, .int (nI (p - 1 - 1))), (0, .int (-nI x)), (2, .ref w.1), (6, .int (0 : Int32))] dJ6_getChars_ba4f3_92 rfl (sb_m1 (by omega)) (by decide) rfl ?_
        refine h_iload 0 dJ6_getChars_ba4f3_95 rfl ?_
        refine h_gets (fun s h => gvb_2 h) lk_J6_87 rfl dJ6_getChars_ba4f3_97 ?_
        refine h_iload_n 1 dJ6_getChars_ba4f3_100 rfl ?_
        refine h_ineg dJ6_getChars_ba4f3_101 ?_
        rw [Int32.neg_neg]
        refine h_tb (.int (nI (48 + x / 10))) (fun s h => gvb_2t h) (vp_in_nI h100 (by decide)) (by rw [nI_clamp hx]) dJ6_getChars_ba4f3_102 ?_
        refine h_bastW (upd (upd w.2.2.1 (p - 1) (sb_b (48 + x % 10))) (p - 1 - 1) (sb_b (48 + x / 10))) hj (vp_in_nI (by show _ < w.2.1; omega) (show w.2.1 < 2 ^ 31 by omega)) (by rw [nI_clamp (by omega), (sb_nar _ (by omega)).2]) dJ6_getChars_ba4f3_103 ?_
        refine h_iload 3 dJ6_getChars_ba4f3_104 rfl ?_
        refine h_if_eq 118 dJ6_getChars_ba4f3_106 (by decide) (fun _ => ?_) (fun h => absurd rfl h)
        refine h_iload 0 dJ6_getChars_ba4f3_118 rfl ?_
        rw [show nI (p - 1 - 1) = nI n from congrArg nI (by omega)]
        refine h_iret rfl dJ6_getChars_ba4f3_120 (hQ _ (fun i hi => by rw [pk_un (by omega), pk_un (by omega)]) (fun i hi => ?_) (fun hf => sb_fitU (sb_fitU hf (sb_fitB _)) (sb_fitB _)))
        obtain rfl | rfl : i = 0 ∨ i = 1 := by omega
        · rw [Nat.sub_zero, pk_un (by omega), pk_us, Nat.pow_zero, Nat.div_one]
        · rw [pk_us, Nat.pow_one, d2]
    · have hdg := sb_dg100 (w := x) (by omega) hx
      have hd2 := (sb_dg_in (x / 100)).1
      refine h_iload_n 0 dJ6_getChars_ba4f3_22 rfl ?_
      refine h_bipush dJ6_getChars_ba4f3_23 (-100 : Int32) (by decide) ?_
      refine h_icmp_gt 72 dJ6_getChars_ba4f3_25 (by decide) (fun h => absurd ((sb_nlt (a := 100) (b := x) (by decide) hx).mp h) h100) (fun _ => ?_)
      refine h_iload_n 0 dJ6_getChars_ba4f3_28 rfl ?_
      refine h_bipush dJ6_getChars_ba4f3_29 (100 : Int32) (by decide) ?_
      refine h_idiv dJ6_getChars_ba4f3_31 (by decide) ?_
      rw [show -nI x / (100 : Int32) = -nI (x / 100) from sb_ndiv hx]
      refine h_istore_n [(3, .int (-nI (x / 100))), (0, .int (-nI x)), (2, .ref w.1), (5, .int (nI p)), (6, .int (0 : Int32))] dJ6_getChars_ba4f3_32 rfl (by decide) rfl ?_
      refine h_iload_n 0 dJ6_getChars_ba4f3_33 rfl ?_
      refine h_bipush dJ6_getChars_ba4f3_34 (100 : Int32) (by decide) ?_
      refine h_imul dJ6_getChars_ba4f3_36 ?_
      refine h_iload_n 1 dJ6_getChars_ba4f3_37 rfl ?_
      refine h_isub dJ6_getChars_ba4f3_38 ?_
      rw [show -nI (x / 100) * (100 : Int32) - -nI x = nI (x % 100) from sb_nrem hx]
      refine h_istore [(4, .int (nI (x % 100))), (3, .int (-nI (x / 100))), (0, .int (-nI x)), (2, .ref w.1), (5, .int (nI p)), (6, .int (0 : Int32))] dJ6_getChars_ba4f3_39 (by decide) rfl ?_
      refine h_iload_n 1 dJ6_getChars_ba4f3_41 rfl ?_
      refine h_istore_n [(0, .int (-nI (x / 100))), (4, .int (nI (x % 100))), (3, .int (-nI (x / 100))), (2, .ref w.1), (5, .int (nI p)), (6, .int (0 : Int32))] dJ6_getChars_ba4f3_42 rfl (by decide) rfl ?_
      refine h_aload_n 3 dJ6_getChars_ba4f3_43 rfl ?_
      refine h_iinc 4 (nI (p - 1)) [(5, .int (nI (p - 1))), (0, .int (-nI (x / 100))), (4, .int (nI (x % 100))), (3, .int (-nI (x / 100))), (2, .ref w.1), (6, .int (0 : Int32))] dJ6_getChars_ba4f3_44 rfl (sb_m1 (by omega)) (by decide) rfl ?_
      refine h_iload 0 dJ6_getChars_ba4f3_47 rfl ?_
      refine h_gets (fun s h => gvb_1 h) lk_J6_83 rfl dJ6_getChars_ba4f3_49 ?_
      refine h_iload 2 dJ6_getChars_ba4f3_52 rfl ?_
      refine h_tb (.int (nI (48 + x % 10))) (fun s h => gvb_1t h) (vp_in_nI (by omega) (by decide)) (by rw [nI_clamp (by omega), show x % 100 % 10 = x % 10 by omega]) dJ6_getChars_ba4f3_54 ?_
      refine h_bastW (upd w.2.2.1 (p - 1) (sb_b (48 + x % 10))) hj (vp_in_nI (by show _ < w.2.1; omega) (show w.2.1 < 2 ^ 31 by omega)) (by rw [nI_clamp (by omega), (sb_nar _ (by omega)).2]) dJ6_getChars_ba4f3_55 ?_
      refine h_aload_n 4 dJ6_getChars_ba4f3_56 rfl ?_
      refine h_iinc 0 (nI (p - 1 - 1)) [(5, .int (nI (p - 1 - 1))), (0, .int (-nI (x / 100))), (4, .int (nI (x % 100))), (3, .int (-nI (x / 100))), (2, .ref w.1), (6, .int (0 : Int32))] dJ6_getChars_ba4f3_57 rfl (sb_m1 (by omega)) (by decide) rfl ?_
      refine h_iload 0 dJ6_getChars_ba4f3_60 rfl ?_
      refine h_gets (fun s h => gvb_2 h) lk_J6_87 rfl dJ6_getChars_ba4f3_62 ?_
      refine h_iload 2 dJ6_getChars_ba4f3_65 rfl ?_
      refine h_tb (.int (nI (48 + x / 10 % 10))) (fun s h => gvb_2t h) (vp_in_nI (by omega) (by decide)) (by rw [nI_clamp (by omega), show x % 100 / 10 = x / 10 % 10 by omega]) dJ6_getChars_ba4f3_67 ?_
      refine h_bastW (upd (upd w.2.2.1 (p - 1) (sb_b (48 + x % 10))) (p - 1 - 1) (sb_b (48 + x / 10 % 10))) hj (vp_in_nI (by show _ < w.2.1; omega) (show w.2.1 < 2 ^ 31 by omega)) (by rw [nI_clamp (by omega), (sb_nar _ (by omega)).2]) dJ6_getChars_ba4f3_68 ?_
      refine h_goto 22 dJ6_getChars_ba4f3_69 (by decide) ?_
      refine h_lv (lv' := [(0, .int (-nI (x / 100))), (2, .ref w.1), (5, .int (nI (p - 1 - 1))), (6, .int 0)]) [1, 4, 0, 5] rfl ?_
      refine ih (x / 100) (p - 1 - 1) (w.1, w.2.1, upd (upd w.2.2.1 (p - 1) (sb_b (48 + x % 10))) (p - 1 - 1) (sb_b (48 + x / 10 % 10)), w.2.2.2) (by omega) (by omega) (by omega) (by show _ ≤ w.2.1; omega) hm (fun a' h1 h2 h3 => ?_)
      refine hQ a' (fun i hi => by rw [h1 i (by omega)]; show upd (upd w.2.2.1 (p - 1) (sb_b (48 + x % 10))) (p - 1 - 1) (sb_b (48 + x / 10 % 10)) i = _; rw [pk_un (by omega), pk_un (by omega)]) (fun i hi => ?_) (fun hf => h3 (sb_fitU (sb_fitU hf (sb_fitB _)) (sb_fitB _)))
      match i, hi with
      | 0, _ =>
        rw [Nat.sub_zero, h1 _ (by omega)]
        show upd (upd w.2.2.1 (p - 1) (sb_b (48 + x % 10))) (p - 1 - 1) (sb_b (48 + x / 10 % 10)) (p - 1) = _
        rw [pk_un (by omega), pk_us, Nat.pow_zero, Nat.div_one]
      | 1, _ =>
        rw [h1 _ (by omega)]
        show upd (upd w.2.2.1 (p - 1) (sb_b (48 + x % 10))) (p - 1 - 1) (sb_b (48 + x / 10 % 10)) (p - 1 - 1) = _
        rw [pk_us, Nat.pow_one]
      | k + 2, hi =>
        rw [show p - 1 - (k + 2) = p - 1 - 1 - 1 - k by omega, h2 k (by omega), Nat.div_div_eq_div_mul, show 100 * 10 ^ k = 10 ^ (k + 2) by rw [show k + 2 = k + 1 + 1 from rfl, Nat.pow_succ, Nat.pow_succ]; omega]
theorem j_getChars {v : gV} {τ : gT} {w : gT1} {j : Nat} (hj : j = 554 ∨ j = 557) {n x : Nat} (hx : x < 2 ^ 31) (hp : n + sb_dg x ≤ w.2.1) (hm : w.2.1 ≤ 256) (hd : 1 ≤ d) : HC E m_J6_getChars_ba4f3 d 0 0 [.int (nI x), .int (nI (n + sb_dg x)), .ref w.1] (v, ts τ j w, []) (fun o ρ' => o = some (.int (nI n)) ∧ ∃ a' : Nat → Int32, ρ' = (v, ts τ j (w.1, w.2.1, a', w.2.2.2), []) ∧ (∀ i, i < n → a' i = w.2.2.1 i) ∧ (∀ i, i < sb_dg x → a' (n + i) = sb_b (sb_dec x i)) ∧ (sb_Fit w.2.2.1 → sb_Fit a')) := by
  refine HC.of ok_J6_getChars_ba4f3 rfl (Nat.le_of_ble_eq_true rfl) ?_
  refine h_iload_n 1 dJ6_getChars_ba4f3_0 rfl ?_
  refine h_istore [(5, .int (nI (n + sb_dg x))), (0, .int (nI x)), (1, .int (nI (n + sb_dg x))), (2, .ref w.1)] dJ6_getChars_ba4f3_1 (by decide) rfl ?_
  refine h_iload_n 1 dJ6_getChars_ba4f3_3 rfl ?_
  refine h_if_ge 11 dJ6_getChars_ba4f3_4 (by decide) (fun _ => ?_) (fun h => absurd (nI_pos' hx) h)
  refine h_iconst dJ6_getChars_ba4f3_11 (0 : Int32) (by decide) ?_
  refine h_istore [(6, .int (0 : Int32)), (5, .int (nI (n + sb_dg x))), (0, .int (nI x)), (1, .int (nI (n + sb_dg x))), (2, .ref w.1)] dJ6_getChars_ba4f3_12 (by decide) rfl ?_
  refine h_iload 0 dJ6_getChars_ba4f3_14 rfl ?_
  refine h_if_ne 22 dJ6_getChars_ba4f3_16 (by decide) (fun h => absurd rfl h) (fun _ => ?_)
  refine h_iload_n 2 dJ6_getChars_ba4f3_19 rfl ?_
  refine h_ineg dJ6_getChars_ba4f3_20 ?_
  refine h_istore_n [(0, .int (-(nI x))), (6, .int (0 : Int32)), (5, .int (nI (n + sb_dg x))), (1, .int (nI (n + sb_dg x))), (2, .ref w.1)] dJ6_getChars_ba4f3_21 rfl (by decide) rfl ?_
  refine h_lv (lv' := [(0, .int (-nI x)), (2, .ref w.1), (5, .int (nI (n + sb_dg x))), (6, .int 0)]) [0, 4, 2, 1] rfl ?_
  refine j_getCharsL hj hd (x + 1) x (n + sb_dg x) w (by omega) hx rfl hp hm (fun a' h1 h2 h3 => ⟨rfl, a', rfl, fun i hi => h1 i (Or.inl hi), fun i hi => ?_, h3⟩)
  have h9 := h2 (sb_dg x - 1 - i) (by omega)
  rw [show n + sb_dg x - 1 - (sb_dg x - 1 - i) = n + i by omega] at h9
  exact h9
theorem j_appendI5 {v : gV} {τ : gT} {w : gT1} {j : Nat} (hj : j = 554 ∨ j = 557) (hc : v.1 j 1 = 0) {n x : Nat} (hn : v.1 j 3 = nI n) (hn0 : n ≤ 110) (hnm : n ≤ w.2.1) (hx : x < 2 ^ 31) (hm : w.2.1 ≤ 256) (hf : sb_Fit w.2.2.1) (hd : 5 ≤ d) : HC E m_J5_append_c97b9 d 1 256 [.ref (gX E + j), .int (nI x)] (v, ts τ j w, []) (fun o ρ' => o = some (.ref (gX E + j)) ∧ ∃ w2 : gT1, ρ' = (vM v j 3 (nI (n + sb_dg x)), ts τ j w2, []) ∧ n + sb_dg x ≤ w2.2.1 ∧ w2.2.1 ≤ 256 ∧ w2.2.2.2 = w.2.2.2 ∧ sb_Fit w2.2.2.1 ∧ (∀ i, i < n → w2.2.2.1 i = w.2.2.1 i) ∧ ∀ i, i < sb_dg x → w2.2.2.1 (n + i) = sb_b (sb_dec x i)) := by
  have hdg := sb_dg_in x
  refine HC.of ok_J5_append_c97b9 rfl (Nat.le_of_ble_eq_true rfl) ?_
  refine h_aload_n 0 dJ5_append_c97b9_0 rfl ?_
  refine h_get (.int (nI n)) f_J5_79 rfl hj dJ5_append_c97b9_1 (by rw [fvB3]; exact congrArg Value.int hn) ?_
  refine h_istore_n [(2, .int (nI n)), (0, .ref (gX E + j)), (1, .int (nI x))] dJ5_append_c97b9_4 rfl (by decide) rfl ?_
  refine h_iload_n 0 dJ5_append_c97b9_5 rfl ?_
  refine h_iload_n 2 dJ5_append_c97b9_6 rfl ?_
  refine h_callS (rest := [.int (nI n)]) s_J5_245 rfl (j_stringSize (d := d - 1) hx (by omega)) rfl rfl (Nat.le_of_ble_eq_true rfl) (show d - 1 + 1 ≤ d by omega) (Nat.zero_le _) (Nat.zero_le _) dJ5_append_c97b9_7 ?_
  rintro _ _ ⟨rfl, rfl⟩
  refine h_iadd dJ5_append_c97b9_10 ?_
  rw [nI_add]
  refine h_istore_n [(3, .int (nI (n + sb_dg x))), (2, .int (nI n)), (0, .ref (gX E + j)), (1, .int (nI x))] dJ5_append_c97b9_11 rfl (by decide) rfl ?_
  refine h_aload_n 2 dJ5_append_c97b9_12 rfl ?_
  refine h_iload_n 0 dJ5_append_c97b9_13 rfl ?_
  refine h_callU (rest := []) s_J5_100 rfl (j_ensure (d := d - 1) (q := n + sb_dg x) hj hc (by omega) hm hf (by omega)) hj rfl rfl (Nat.le_of_ble_eq_true rfl) (show d - 1 + 1 ≤ d by omega) (Nat.le_refl _) (Nat.le_refl _) dJ5_append_c97b9_14 ?_
  rintro _ _ ⟨rfl, w', rfl, g1, g2, g3, g4, g5⟩
  refine h_aload_n 2 dJ5_append_c97b9_17 rfl ?_
  refine h_callU (rest := []) s_J5_83 rfl (j_isLatin1 (d := d - 1) (w := w') hj hc (by omega)) hj rfl rfl (Nat.le_of_ble_eq_true rfl) (show d - 1 + 1 ≤ d by omega) (Nat.zero_le _) (Nat.zero_le _) dJ5_append_c97b9_18 ?_
  rintro _ _ ⟨rfl, rfl⟩
  refine h_if_eq 37 dJ5_append_c97b9_21 (by decide) (fun h => absurd h (by decide)) (fun _ => ?_)
  refine h_iload_n 3 dJ5_append_c97b9_24 rfl ?_
  refine h_iload_n 0 dJ5_append_c97b9_25 rfl ?_
  refine h_aload_n 2 dJ5_append_c97b9_26 rfl ?_
  refine h_get (.ref w'.1) f_J5_15 rfl hj dJ5_append_c97b9_27 fvV ?_
  refine h_callS (rest := []) s_J5_248 rfl (j_getChars (d := d - 1) (w := w') (n := n) hj hx g1 g2 (by omega)) rfl rfl (Nat.le_of_ble_eq_true rfl) (show d - 1 + 1 ≤ d by omega) (Nat.zero_le _) (Nat.zero_le _) dJ5_append_c97b9_30 ?_
  rintro _ _ ⟨rfl, a', rfl, k1, k2, k3⟩
  refine h_pop dJ5_append_c97b9_33 rfl ?_
  refine h_goto 48 dJ5_append_c97b9_34 (by decide) ?_
  refine h_aload_n 2 dJ5_append_c97b9_48 rfl ?_
  refine h_iload_n 0 dJ5_append_c97b9_49 rfl ?_
  refine h_putc pf_J5_79 rfl hj dJ5_append_c97b9_50 ?_
  refine h_aload_n 2 dJ5_append_c97b9_53 rfl ?_
  exact h_aret rfl dJ5_append_c97b9_54 ⟨rfl, _, rfl, g1, g2, g3, k3 g4, fun i hi => (k1 i hi).trans (g5 i (by omega)), k2⟩
theorem j_appendI {v : gV} {τ : gT} {w : gT1} {j : Nat} (hj : j = 554 ∨ j = 557) (hc : v.1 j 1 = 0) {n x : Nat} (hn : v.1 j 3 = nI n) (hn0 : n ≤ 110) (hnm : n ≤ w.2.1) (hx : x < 2 ^ 31) (hm : w.2.1 ≤ 256) (hf : sb_Fit w.2.2.1) (hd : 6 ≤ d) : HC E m_J4_append_bf812 d 1 256 [.ref (gX E + j), .int (nI x)] (v, ts τ j w, []) (fun o ρ' => o = some (.ref (gX E + j)) ∧ ∃ w2 : gT1, ρ' = (vM v j 3 (nI (n + sb_dg x)), ts τ j w2, []) ∧ n + sb_dg x ≤ w2.2.1 ∧ w2.2.1 ≤ 256 ∧ w2.2.2.2 = w.2.2.2 ∧ sb_Fit w2.2.2.1 ∧ (∀ i, i < n → w2.2.2.1 i = w.2.2.1 i) ∧ ∀ i, i < sb_dg x → w2.2.2.1 (n + i) = sb_b (sb_dec x i)) := by
  refine HC.of ok_J4_append_bf812 rfl (Nat.le_of_ble_eq_true rfl) ?_
  refine h_aload_n 0 dJ4_append_bf812_0 rfl ?_
  refine h_iload_n 1 dJ4_append_bf812_1 rfl ?_
  refine h_callX (rest := []) s_J4_53 rfl (j_appendI5 (d := d - 1) hj hc hn hn0 hnm hx hm hf (by omega)) hj rfl rfl (Nat.le_of_ble_eq_true rfl) (show d - 1 + 1 ≤ d by omega) (Nat.le_refl _) (Nat.le_refl _) dJ4_append_bf812_2 ?_
  rintro _ _ ⟨rfl, w2, rfl, h2⟩
  refine h_pop dJ4_append_bf812_5 rfl ?_
  refine h_aload_n 0 dJ4_append_bf812_6 rfl ?_
  exact h_aret rfl dJ4_append_bf812_7 ⟨rfl, w2, rfl, h2⟩
theorem j_length5 {v : gV} {τ : gT} {X : va_W} {j : Nat} (hj : j = 554 ∨ j = 557) (hd : 1 ≤ d) : HC E m_J5_length_8abf5 d 0 0 [.ref (gX E + j)] (v, τ, X) (fun o ρ' => o = some (.int (v.1 j 3)) ∧ ρ' = (v, τ, X)) := by
  refine HC.of ok_J5_length_8abf5 rfl (Nat.le_of_ble_eq_true rfl) ?_
  refine h_aload_n 0 dJ5_length_8abf5_0 rfl ?_
  refine h_get (.int (v.1 j 3)) f_J5_79 rfl hj dJ5_length_8abf5_1 fvB3 ?_
  exact h_iret rfl dJ5_length_8abf5_4 ⟨rfl, rfl⟩
theorem j_length {v : gV} {τ : gT} {X : va_W} {j : Nat} (hj : j = 554 ∨ j = 557) (hd : 2 ≤ d) : HC E m_J4_length_8abf5 d 0 0 [.ref (gX E + j)] (v, τ, X) (fun o ρ' => o = some (.int (v.1 j 3)) ∧ ρ' = (v, τ, X)) := by
  refine HC.of ok_J4_length_8abf5 rfl (Nat.le_of_ble_eq_true rfl) ?_
  refine h_aload_n 0 dJ4_length_8abf5_0 rfl ?_
  refine h_callX (rest := []) s_J4_343 rfl (j_length5 (d := d - 1) hj (by omega)) hj rfl rfl (Nat.le_of_ble_eq_true rfl) (show d - 1 + 1 ≤ d by omega) (Nat.zero_le _) (Nat.zero_le _) dJ4_length_8abf5_1 ?_
  rintro _ _ ⟨rfl, rfl⟩
  exact h_iret rfl dJ4_length_8abf5_4 ⟨rfl, rfl⟩
theorem j_setLength5 {v : gV} {τ : gT} {w : gT1} {j : Nat} (hj : j = 554 ∨ j = 557) (hc : v.1 j 1 = 0) {n : Nat} (hn : v.1 j 3 = nI n) (hn0 : n ≤ 256) (hm : w.2.1 ≤ 256) (hf : sb_Fit w.2.2.1) (hd : 5 ≤ d) : HC E m_J5_setLength_d00df d 1 256 [.ref (gX E + j), .int 0] (v, ts τ j w, []) (fun o ρ' => o = none ∧ ∃ w2 : gT1, ρ' = (vM v j 3 0, ts τ j w2, []) ∧ w2.2.1 ≤ 256 ∧ (w2.2.2.2 = w.2.2.2 ∨ w2.2.2.2 = 1) ∧ sb_Fit w2.2.2.1) := by
  refine HC.of ok_J5_setLength_d00df rfl (Nat.le_of_ble_eq_true rfl) ?_
  refine h_iload_n 1 dJ5_setLength_d00df_0 rfl ?_
  refine h_if_ge 13 dJ5_setLength_d00df_1 (by decide) (fun _ => ?_) (fun h => absurd (Int32.le_refl _) h)
  refine h_aload_n 0 dJ5_setLength_d00df_13 rfl ?_
  refine h_iload_n 1 dJ5_setLength_d00df_14 rfl ?_
  refine h_callU (rest := []) s_J5_100 rfl (j_ensure (d := d - 1) (q := 0) hj hc (by omega) hm hf (by omega)) hj rfl rfl (Nat.le_of_ble_eq_true rfl) (show d - 1 + 1 ≤ d by omega) (Nat.le_refl _) (Nat.le_refl _) dJ5_setLength_d00df_15 ?_
  rintro _ _ ⟨rfl, w', rfl, g1, g2, g3, g4, g5⟩
  refine h_aload_n 0 dJ5_setLength_d00df_18 rfl ?_
  refine h_get (.int (nI n)) f_J5_79 rfl hj dJ5_setLength_d00df_19 (by rw [fvB3]; exact congrArg Value.int hn) ?_
  refine h_iload_n 1 dJ5_setLength_d00df_22 rfl ?_
  refine h_icmp_ge 63 dJ5_setLength_d00df_23 (by decide) (fun _ => ?_) (fun h => absurd (nI_pos' (by omega)) h)
  refine h_aload_n 0 dJ5_setLength_d00df_63 rfl ?_
  refine h_get (.int (nI n)) f_J5_79 rfl hj dJ5_setLength_d00df_64 (by rw [fvB3]; exact congrArg Value.int hn) ?_
  refine h_iload_n 1 dJ5_setLength_d00df_67 rfl ?_
  refine h_icmp_le 76 dJ5_setLength_d00df_68 (by decide) (fun _ => ?_) (fun _ => ?_)
  · refine h_aload_n 0 dJ5_setLength_d00df_76 rfl ?_
    refine h_iload_n 1 dJ5_setLength_d00df_77 rfl ?_
    refine h_putc pf_J5_79 rfl hj dJ5_setLength_d00df_78 ?_
    exact h_vret rfl dJ5_setLength_d00df_81 ⟨rfl, w', rfl, g2, Or.inl g3, g4⟩
  · refine h_aload_n 0 dJ5_setLength_d00df_71 rfl ?_
    refine h_iconst dJ5_setLength_d00df_72 (1 : Int32) (by decide) ?_
    refine h_putm pf_J5_73 rfl hj (Or.inr rfl) dJ5_setLength_d00df_73 ?_
    refine h_aload_n 0 dJ5_setLength_d00df_76 rfl ?_
    refine h_iload_n 1 dJ5_setLength_d00df_77 rfl ?_
    refine h_putc pf_J5_79 rfl hj dJ5_setLength_d00df_78 ?_
    exact h_vret rfl dJ5_setLength_d00df_81 ⟨rfl, _, rfl, g2, Or.inr rfl, g4⟩
theorem j_setLength {v : gV} {τ : gT} {w : gT1} {j : Nat} (hj : j = 554 ∨ j = 557) (hc : v.1 j 1 = 0) {n : Nat} (hn : v.1 j 3 = nI n) (hn0 : n ≤ 256) (hm : w.2.1 ≤ 256) (hf : sb_Fit w.2.2.1) (hd : 6 ≤ d) : HC E m_J4_setLength_d00df d 1 256 [.ref (gX E + j), .int 0] (v, ts τ j w, []) (fun o ρ' => o = none ∧ ∃ w2 : gT1, ρ' = (vM v j 3 0, ts τ j w2, []) ∧ w2.2.1 ≤ 256 ∧ (w2.2.2.2 = w.2.2.2 ∨ w2.2.2.2 = 1) ∧ sb_Fit w2.2.2.1) := by
  refine HC.of ok_J4_setLength_d00df rfl (Nat.le_of_ble_eq_true rfl) ?_
  refine h_aload_n 0 dJ4_setLength_d00df_0 rfl ?_
  refine h_iload_n 1 dJ4_setLength_d00df_1 rfl ?_
  refine h_callX (rest := []) s_J4_333 rfl (j_setLength5 (d := d - 1) hj hc hn hn0 hm hf (by omega)) hj rfl rfl (Nat.le_of_ble_eq_true rfl) (show d - 1 + 1 ≤ d by omega) (Nat.le_refl _) (Nat.le_refl _) dJ4_setLength_d00df_2 ?_
  rintro _ _ ⟨rfl, w2, rfl, h2⟩
  exact h_vret rfl dJ4_setLength_d00df_5 ⟨rfl, w2, rfl, h2⟩
theorem j_check3 {ρ : hS} {i n : Nat} {z : Value} (hz : z.category = 1) (hi : i < n) (hn : n < 2 ^ 31) (hd : 1 ≤ d) : HC E m_J3_checkIndex_8e157 d 0 0 [.int (nI i), .int (nI n), z] ρ (fun o ρ' => o = some (.int (nI i)) ∧ ρ' = ρ) := by
  refine HC.of ok_J3_checkIndex_8e157 rfl (show (lg_sl [.int (nI i), .int (nI n), z]).length ≤ 3 from by cases z <;> first | exact Nat.le_of_ble_eq_true rfl | exact absurd hz (by simp [Value.category])) ?_
  rw [show lv_args 0 [.int (nI i), .int (nI n), z] = [(0, .int (nI i)), (1, .int (nI n)), (2, z)] from by simp [lv_args, Value.category]]
  refine h_iload_n 0 dJ3_checkIndex_8e157_0 rfl ?_
  refine h_if_lt 9 dJ3_checkIndex_8e157_1 (by decide) (fun h => absurd h (nI_pos (by omega))) (fun _ => ?_)
  refine h_iload_n 0 dJ3_checkIndex_8e157_4 rfl ?_
  refine h_iload_n 1 dJ3_checkIndex_8e157_5 rfl ?_
  refine h_icmp_lt 16 dJ3_checkIndex_8e157_6 (by decide) (fun _ => ?_) (fun h => absurd (nI_lt hi hn) h)
  refine h_iload_n 0 dJ3_checkIndex_8e157_16 rfl ?_
  exact h_iret rfl dJ3_checkIndex_8e157_17 ⟨rfl, rfl⟩
theorem j_check {ρ : hS} {i n : Nat} (hi : i < n) (hn : n < 2 ^ 31) (hd : 2 ≤ d) : HC E m_J0_checkIndex_df160 d 0 0 [.int (nI i), .int (nI n)] ρ (fun o ρ' => o = none ∧ ρ' = ρ) := by
  refine HC.of ok_J0_checkIndex_df160 rfl (Nat.le_of_ble_eq_true rfl) ?_
  refine h_iload_n 0 dJ0_checkIndex_df160_0 rfl ?_
  refine h_iload_n 1 dJ0_checkIndex_df160_1 rfl ?_
  refine h_getsq (fun s h => gvb_q h) lk_J0_1053 rfl dJ0_checkIndex_df160_2 (fun z hz => ?_)
  refine h_callS (rest := []) s_J0_1059 rfl (j_check3 (d := d - 1) hz hi hn (by omega)) rfl rfl (Nat.le_of_ble_eq_true rfl) (show d - 1 + 1 ≤ d by omega) (Nat.zero_le _) (Nat.zero_le _) dJ0_checkIndex_df160_5 ?_
  rintro _ _ ⟨rfl, rfl⟩
  refine h_pop dJ0_checkIndex_df160_8 rfl ?_
  exact h_vret rfl dJ0_checkIndex_df160_9 ⟨rfl, rfl⟩
theorem narrow_char {c : Nat} (h : c < 256) : narrow .char (.int (nI c)) = .int (nI c) := by
  have h1 : ((nI c).toUInt32 % 65536).toInt32 = nI c := (sb_byte c h).2.1
  show Value.int _ = _
  first | exact congrArg Value.int h1 | (rw [← h1]; rfl)
theorem j_charAt5 {v : gV} {τ : gT} {w : gT1} {j : Nat} (hj : j = 554 ∨ j = 557) (hc : v.1 j 1 = 0) {n i c : Nat} (hn : v.1 j 3 = nI n) (hnm : n ≤ w.2.1) (hm : w.2.1 ≤ 256) (hi : i < n) (hc256 : c < 256) (hch : w.2.2.1 i = sb_b c) (hd : 4 ≤ d) : HC E m_J5_charAt_5068e d 0 0 [.ref (gX E + j), .int (nI i)] (v, ts τ j w, []) (fun o ρ' => o = some (.int (nI c)) ∧ ρ' = (v, ts τ j w, [])) := by
  refine HC.of ok_J5_charAt_5068e rfl (Nat.le_of_ble_eq_true rfl) ?_
  refine h_aload_n 0 dJ5_charAt_5068e_0 rfl ?_
  refine h_get (.int 0) f_J5_22 rfl hj dJ5_charAt_5068e_1 (by rw [fvB1, hc]) ?_
  refine h_istore_n [(2, .int (0 : Int32)), (0, .ref (gX E + j)), (1, .int (nI i))] dJ5_charAt_5068e_4 rfl (by decide) rfl ?_
  refine h_aload_n 1 dJ5_charAt_5068e_5 rfl ?_
  refine h_get (.ref w.1) f_J5_15 rfl hj dJ5_charAt_5068e_6 fvV ?_
  refine h_astore_n [(3, .ref w.1), (2, .int (0 : Int32)), (0, .ref (gX E + j)), (1, .int (nI i))] dJ5_charAt_5068e_9 rfl (by decide) rfl ?_
  refine h_aload_n 2 dJ5_charAt_5068e_10 rfl ?_
  refine h_get (.int (nI n)) f_J5_79 rfl hj dJ5_charAt_5068e_11 (by rw [fvB3]; exact congrArg Value.int hn) ?_
  refine h_aload_n 0 dJ5_charAt_5068e_14 rfl ?_
  refine h_lenW (nI w.2.1) hj rfl dJ5_charAt_5068e_15 ?_
  refine h_iload_n 1 dJ5_charAt_5068e_16 rfl ?_
  refine h_ishr dJ5_charAt_5068e_17 ?_
  rw [sb_shr0]
  refine h_mmin mw_J5_138 rfl (Nat.le_of_ble_eq_true rfl) (by omega) dJ5_charAt_5068e_18 ?_
  rw [if_neg (nI_nlt hnm (by omega))]
  refine h_istore [(4, .int (nI n)), (3, .ref w.1), (2, .int (0 : Int32)), (0, .ref (gX E + j)), (1, .int (nI i))] dJ5_charAt_5068e_21 (by decide) rfl ?_
  refine h_iload_n 4 dJ5_charAt_5068e_23 rfl ?_
  refine h_iload 0 dJ5_charAt_5068e_24 rfl ?_
  refine h_callS (rest := []) s_J5_144 rfl (j_check (d := d - 1) hi (by omega) (by omega)) rfl rfl (Nat.le_of_ble_eq_true rfl) (show d - 1 + 1 ≤ d by omega) (Nat.zero_le _) (Nat.zero_le _) dJ5_charAt_5068e_26 ?_
  rintro _ _ ⟨rfl, rfl⟩
  refine h_iload_n 2 dJ5_charAt_5068e_29 rfl ?_
  refine h_if_ne 42 dJ5_charAt_5068e_30 (by decide) (fun h => absurd rfl h) (fun _ => ?_)
  refine h_aload_n 1 dJ5_charAt_5068e_33 rfl ?_
  refine h_iload_n 4 dJ5_charAt_5068e_34 rfl ?_
  refine h_bald (hws_w hj) (vp_in_nI (by omega) (by omega)) dJ5_charAt_5068e_35 ?_
  rw [nI_clamp (by omega), hch]
  refine h_sipush dJ5_charAt_5068e_36 (255 : Int32) (by decide) ?_
  refine h_iand dJ5_charAt_5068e_39 ?_
  rw [show sb_b c &&& (255 : Int32) = nI c from (sb_byte c hc256).1]
  refine h_i2c dJ5_charAt_5068e_40 ?_
  rw [(sb_byte c hc256).2.1]
  exact h_zret (ty := .char) rfl (by rw [narrow_char hc256]) dJ5_charAt_5068e_41 ⟨rfl, rfl⟩
theorem j_charAt {v : gV} {τ : gT} {w : gT1} {j : Nat} (hj : j = 554 ∨ j = 557) (hc : v.1 j 1 = 0) {n i c : Nat} (hn : v.1 j 3 = nI n) (hnm : n ≤ w.2.1) (hm : w.2.1 ≤ 256) (hi : i < n) (hc256 : c < 256) (hch : w.2.2.1 i = sb_b c) (hd : 5 ≤ d) : HC E m_J4_charAt_5068e d 0 0 [.ref (gX E + j), .int (nI i)] (v, ts τ j w, []) (fun o ρ' => o = some (.int (nI c)) ∧ ρ' = (v, ts τ j w, [])) := by
  refine HC.of ok_J4_charAt_5068e rfl (Nat.le_of_ble_eq_true rfl) ?_
  refine h_aload_n 0 dJ4_charAt_5068e_0 rfl ?_
  refine h_iload_n 1 dJ4_charAt_5068e_1 rfl ?_
  refine h_callX (rest := []) s_J4_329 rfl (j_charAt5 (d := d - 1) hj hc hn hnm hm hi hc256 hch (by omega)) hj rfl rfl (Nat.le_of_ble_eq_true rfl) (show d - 1 + 1 ≤ d by omega) (Nat.zero_le _) (Nat.zero_le _) dJ4_charAt_5068e_2 ?_
  rintro _ _ ⟨rfl, rfl⟩
  exact h_zret (ty := .char) rfl (by rw [narrow_char hc256]) dJ4_charAt_5068e_5 ⟨rfl, rfl⟩
end JDK2
