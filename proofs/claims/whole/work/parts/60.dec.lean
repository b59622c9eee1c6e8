def f_X7_append_30   (v : gV) : (Int32 ⊕ String) × gV := (Sum.inl (f_J4_length_8abf5 554 v), v)
def p_X7_append_30   (v : gV) : Prop := (p_J4_length_8abf5 554 v) ∧ (True)
set_option maxHeartbeats 4000000 in
set_option maxRecDepth 100000 in
theorem w_X7_append_30 {E : gE} {d : Nat} {Q : gO → gS → Prop}   (hd : 7 ≤ d)  (v : gV) (hp : p_X7_append_30    v) (hQ : gqTIV Q (f_X7_append_30   v)) : gG E m_X7_append d Q 0 0 (rS v) 30 [(0, .ref (gX E + 553))] [.ref (gX E + 554)] := by
  refine g_pop dX7_append_30 rfl ?_
  refine g_aload_n 0 dX7_append_31 rfl ?_
  refine r_get (.ref (gX E + 554)) f_X7_12_X7 rfl (by decide : kd 553 = (0, 5)) (show 553 < 572 by decide) dX7_append_32 (fun _ => rfl) ?_
  obtain ⟨h4, hp⟩ := hp
  refine g_callV (rest := []) s_X7_22_J4 rfl (c_J4_length_8abf5 (E := E) (d := d - 1) 554 (Or.inl rfl) (by omega)  v h4) (by decide : kd 554 = (0, 10)) (show 554 < 572 by decide) rfl rfl (Nat.le_of_ble_eq_true rfl) (by omega) (by decide) (by decide) dX7_append_35 (adV ?_) axN
  exact g_iret rfl dX7_append_38 hQ
def f_X7_append_0  (x1 : Int32) (v : gV) : (Int32 ⊕ String) × gV := if (f_J4_length_8abf5 554 v) < (60 : Int32) then (f_X7_append_30   (f_J4_append_cf468 554 x1 v)) else ((Sum.inr "java/lang/IllegalStateException", v))
def p_X7_append_0  (x1 : Int32) (v : gV) : Prop := (p_J4_length_8abf5 554 v) ∧ ((((f_J4_length_8abf5 554 v) < (60 : Int32)) → ((p_J4_append_cf468 554 x1 v) ∧ (p_X7_append_30    (f_J4_append_cf468 554 x1 v)))) ∧ (¬ ((f_J4_length_8abf5 554 v) < (60 : Int32)) → (True)))
set_option maxHeartbeats 4000000 in
set_option maxRecDepth 100000 in
theorem w_X7_append_0 {E : gE} {d : Nat} {Q : gO → gS → Prop}   (hd : 7 ≤ d) (x1 : Int32) (v : gV) (hp : p_X7_append_0   x1 v) (hQ : gqTIV Q (f_X7_append_0  x1 v)) : gG E m_X7_append d Q 1 256 (rS v) 0 [(0, .ref (gX E + 553)), (1, .int x1)] [] := by
  refine g_aload_n 0 dX7_append_0 rfl ?_
  refine r_get (.ref (gX E + 554)) f_X7_12_X7 rfl (by decide : kd 553 = (0, 5)) (show 553 < 572 by decide) dX7_append_1 (fun _ => rfl) ?_
  obtain ⟨h1, hp⟩ := hp
  refine g_callV (rest := []) s_X7_22_J4 rfl (c_J4_length_8abf5 (E := E) (d := d - 1) 554 (Or.inl rfl) (by omega)  v h1) (by decide : kd 554 = (0, 10)) (show 554 < 572 by decide) rfl rfl (Nat.le_of_ble_eq_true rfl) (by omega) (by decide) (by decide) dX7_append_4 (adV ?_) axN
  refine g_bipush dX7_append_7 (60 : Int32) (by decide) ?_
  refine g_icmp_lt 22 dX7_append_9 (by decide) (fun h2 => ?_) (fun h2 => ?_)
  · have hQ := qp (P := gqTIV Q) h2 hQ
    have hp := hp.1 h2
    refine g_aload_n 0 dX7_append_22 rfl ?_
    refine r_get (.ref (gX E + 554)) f_X7_12_X7 rfl (by decide : kd 553 = (0, 5)) (show 553 < 572 by decide) dX7_append_23 (fun _ => rfl) ?_
    refine g_iload_n 1 dX7_append_26 rfl ?_
    obtain ⟨h3, hp⟩ := hp
    refine g_callV (rest := []) s_X7_33_J4 rfl (c_J4_append_cf468 (E := E) (d := d - 1) 554 (Or.inl rfl) (by omega) x1 v h3) (by decide : kd 554 = (0, 10)) (show 554 < 572 by decide) rfl rfl (Nat.le_of_ble_eq_true rfl) (by omega) (by decide) (by decide) dX7_append_27 (adV ?_) axN
    refine g_lv (lv' := [(0, .ref (gX E + 553))]) [0] rfl ?_
    exact w_X7_append_30  hd     (f_J4_append_cf468 554 x1 v) hp hQ
  · have hQ := qn (P := gqTIV Q) h2 hQ
    have hp := hp.2 h2
    exact g_throwS rfl t_X7_26_28 rfl rfl rfl (by omega) (by decide) (by decide) (Nat.le_of_ble_eq_true rfl) dX7_append_12 dX7_append_15 dX7_append_16 dX7_append_18 dX7_append_21 hQ
def f_X7_append  (x1 : Int32) (v : gV) : (Int32 ⊕ String) × gV := f_X7_append_0 x1 v
def p_X7_append  (x1 : Int32) (v : gV) : Prop := p_X7_append_0 x1 v
theorem c_X7_append {E : gE} {d : Nat}   (hd : 7 ≤ d) (x1 : Int32) (v : gV) (hp : p_X7_append x1 v) : CT E m_X7_append d 1 256 [.ref (gX E + 553), .int x1] (rS v) (Cq (gOi (f_X7_append x1 v).1) (f_X7_append x1 v).2) := CT.of ok_X7_append rfl (Nat.le_of_ble_eq_true rfl) (w_X7_append_0  hd x1 v hp ⟨rfl, rfl⟩)
def f_X7_empty_8   (v : gV) : gV := v
def p_X7_empty_8   (v : gV) : Prop := True
set_option maxHeartbeats 4000000 in
set_option maxRecDepth 100000 in
theorem w_X7_empty_8 {E : gE} {d : Nat} {Q : gO → gS → Prop}   (hd : 7 ≤ d)  (v : gV) (hp : p_X7_empty_8    v) (hQ : gqV Q (f_X7_empty_8   v)) : gG E m_X7_empty d Q 0 0 (rS v) 8 [] [] := by
  exact g_vret rfl dX7_empty_8 hQ
def f_X7_empty_0   (v : gV) : gV := f_X7_empty_8   (f_J4_setLength_d00df 554 (0 : Int32) v)
def p_X7_empty_0   (v : gV) : Prop := (p_J4_setLength_d00df 554 (0 : Int32) v) ∧ (p_X7_empty_8    (f_J4_setLength_d00df 554 (0 : Int32) v))
set_option maxHeartbeats 4000000 in
set_option maxRecDepth 100000 in
theorem w_X7_empty_0 {E : gE} {d : Nat} {Q : gO → gS → Prop}   (hd : 7 ≤ d)  (v : gV) (hp : p_X7_empty_0    v) (hQ : gqV Q (f_X7_empty_0   v)) : gG E m_X7_empty d Q 1 256 (rS v) 0 [(0, .ref (gX E + 553))] [] := by
  refine g_aload_n 0 dX7_empty_0 rfl ?_
  refine r_get (.ref (gX E + 554)) f_X7_12_X7 rfl (by decide : kd 553 = (0, 5)) (show 553 < 572 by decide) dX7_empty_1 (fun _ => rfl) ?_
  refine g_iconst dX7_empty_4 (0 : Int32) (by decide) ?_
  obtain ⟨h1, hp⟩ := hp
  refine g_callV (rest := []) s_X7_37_J4 rfl (c_J4_setLength_d00df (E := E) (d := d - 1) 554 (Or.inl rfl) (by omega) (0 : Int32) v h1) (by decide : kd 554 = (0, 10)) (show 554 < 572 by decide) rfl rfl (Nat.le_of_ble_eq_true rfl) (by omega) (by decide) (by decide) dX7_empty_5 (adN ?_) axN
  refine g_lv (lv' := []) [] rfl ?_
  exact w_X7_empty_8  hd     (f_J4_setLength_d00df 554 (0 : Int32) v) hp hQ
def f_X7_empty   (v : gV) : gV := f_X7_empty_0  v
def p_X7_empty   (v : gV) : Prop := p_X7_empty_0  v
theorem c_X7_empty {E : gE} {d : Nat}   (hd : 7 ≤ d)  (v : gV) (hp : p_X7_empty  v) : CT E m_X7_empty d 1 256 [.ref (gX E + 553)] (rS v) (Cq (.inl none) (f_X7_empty  v)) := CT.of ok_X7_empty rfl (Nat.le_of_ble_eq_true rfl) (w_X7_empty_0  hd  v hp ⟨rfl, rfl⟩)
def f_X7_readDigit_46   (v : gV) : Int32 × gV := ((-1 : Int32), v)
def p_X7_readDigit_46   (v : gV) : Prop := True
set_option maxHeartbeats 4000000 in
set_option maxRecDepth 100000 in
theorem w_X7_readDigit_46 {E : gE} {d : Nat} {Q : gO → gS → Prop}   (hd : 6 ≤ d)  (v : gV) (hp : p_X7_readDigit_46    v) (hQ : gqIV Q (f_X7_readDigit_46   v)) : gG E m_X7_readDigit d Q 0 0 (rS v) 46 [] [] := by
  refine g_iconst dX7_readDigit_46 (-1 : Int32) (by decide) ?_
  exact g_iret rfl dX7_readDigit_47 hQ
def f_X7_readDigit_73  (x1 : Int32) (v : gV) : Int32 × gV := (x1, v)
def p_X7_readDigit_73  (x1 : Int32) (v : gV) : Prop := True
set_option maxHeartbeats 4000000 in
set_option maxRecDepth 100000 in
theorem w_X7_readDigit_73 {E : gE} {d : Nat} {Q : gO → gS → Prop}   (hd : 6 ≤ d) (x1 : Int32) (v : gV) (hp : p_X7_readDigit_73   x1 v) (hQ : gqIV Q (f_X7_readDigit_73  x1 v)) : gG E m_X7_readDigit d Q 0 0 (rS v) 73 [(1, .int x1)] [] := by
  refine g_iload_n 0 dX7_readDigit_73 rfl ?_
  exact g_iret rfl dX7_readDigit_74 hQ
def f_X7_readDigit_0   (v : gV) : Int32 × gV := if (f_J4_length_8abf5 554 v) ≤ (v.1 553 3) then (f_X7_readDigit_46   v) else (if (f_J4_charAt_5068e 554 (v.1 553 3) v) < (48 : Int32) then (f_X7_readDigit_46   v) else (if (f_J4_charAt_5068e 554 (v.1 553 3) v) ≤ (57 : Int32) then (f_X7_readDigit_73  ((f_J4_charAt_5068e 554 (v.1 553 3) v) - (48 : Int32)) (vM v 553 3 ((v.1 553 3) + (1 : Int32)))) else (f_X7_readDigit_46   v)))
def p_X7_readDigit_0   (v : gV) : Prop := (p_J4_length_8abf5 554 v) ∧ ((((f_J4_length_8abf5 554 v) ≤ (v.1 553 3)) → (p_X7_readDigit_46    v)) ∧ (¬ ((f_J4_length_8abf5 554 v) ≤ (v.1 553 3)) → ((p_J4_charAt_5068e 554 (v.1 553 3) v) ∧ ((((f_J4_charAt_5068e 554 (v.1 553 3) v) < (48 : Int32)) → (p_X7_readDigit_46    v)) ∧ (¬ ((f_J4_charAt_5068e 554 (v.1 553 3) v) < (48 : Int32)) → ((p_J4_charAt_5068e 554 (v.1 553 3) v) ∧ ((((f_J4_charAt_5068e 554 (v.1 553 3) v) ≤ (57 : Int32)) → ((p_J4_charAt_5068e 554 (v.1 553 3) v) ∧ (p_X7_readDigit_73   ((f_J4_charAt_5068e 554 (v.1 553 3) v) - (48 : Int32)) (vM v 553 3 ((v.1 553 3) + (1 : Int32)))))) ∧ (¬ ((f_J4_charAt_5068e 554 (v.1 553 3) v) ≤ (57 : Int32)) → (p_X7_readDigit_46    v)))))))))
set_option maxHeartbeats 4000000 in
set_option maxRecDepth 100000 in
theorem w_X7_readDigit_0 {E : gE} {d : Nat} {Q : gO → gS → Prop}   (hd : 6 ≤ d)  (v : gV) (hp : p_X7_readDigit_0    v) (hQ : gqIV Q (f_X7_readDigit_0   v)) : gG E m_X7_readDigit d Q 0 0 (rS v) 0 [(0, .ref (gX E + 553))] [] := by
  refine g_aload_n 0 dX7_readDigit_0 rfl ?_
  refine r_get (.int (v.1 553 3)) f_X7_41_X7 rfl (by decide : kd 553 = (0, 5)) (show 553 < 572 by decide) dX7_readDigit_1 (fun _ => rfl) ?_
  refine g_aload_n 0 dX7_readDigit_4 rfl ?_
  refine r_get (.ref (gX E + 554)) f_X7_12_X7 rfl (by decide : kd 553 = (0, 5)) (show 553 < 572 by decide) dX7_readDigit_5 (fun _ => rfl) ?_
  obtain ⟨h1, hp⟩ := hp
  refine g_callV (rest := [.int (v.1 553 3)]) s_X7_22_J4 rfl (c_J4_length_8abf5 (E := E) (d := d - 1) 554 (Or.inl rfl) (by omega)  v h1) (by decide : kd 554 = (0, 10)) (show 554 < 572 by decide) rfl rfl (Nat.le_of_ble_eq_true rfl) (by omega) (by decide) (by decide) dX7_readDigit_8 (adV ?_) axN
  refine g_icmp_ge 46 dX7_readDigit_11 (by decide) (fun h2 => ?_) (fun h2 => ?_)
  · have hQ := qp (P := gqIV Q) h2 hQ
    have hp := hp.1 h2
    refine g_lv (lv' := []) [] rfl ?_
    exact w_X7_readDigit_46  hd     v hp hQ
  · have hQ := qn (P := gqIV Q) h2 hQ
    have hp := hp.2 h2
    refine g_aload_n 0 dX7_readDigit_14 rfl ?_
    refine r_get (.ref (gX E + 554)) f_X7_12_X7 rfl (by decide : kd 553 = (0, 5)) (show 553 < 572 by decide) dX7_readDigit_15 (fun _ => rfl) ?_
    refine g_aload_n 0 dX7_readDigit_18 rfl ?_
    refine r_get (.int (v.1 553 3)) f_X7_41_X7 rfl (by decide : kd 553 = (0, 5)) (show 553 < 572 by decide) dX7_readDigit_19 (fun _ => rfl) ?_
    obtain ⟨h3, hp⟩ := hp
    refine g_callV (rest := []) s_X7_49_J4 rfl (c_J4_charAt_5068e (E := E) (d := d - 1) 554 (Or.inl rfl) (by omega) (v.1 553 3) v h3) (by decide : kd 554 = (0, 10)) (show 554 < 572 by decide) rfl rfl (Nat.le_of_ble_eq_true rfl) (by omega) (by decide) (by decide) dX7_readDigit_22 (adV ?_) axN
    refine g_bipush dX7_readDigit_25 (48 : Int32) (by decide) ?_
    refine g_icmp_lt 46 dX7_readDigit_27 (by decide) (fun h4 => ?_) (fun h4 => ?_)
    · have hQ := qp (P := gqIV Q) h4 hQ
      have hp := hp.1 h4
      refine g_lv (lv' := []) [] rfl ?_
      exact w_X7_readDigit_46  hd     v hp hQ
    · have hQ := qn (P := gqIV Q) h4 hQ
      have hp := hp.2 h4
      refine g_aload_n 0 dX7_readDigit_30 rfl ?_
      refine r_get (.ref (gX E + 554)) f_X7_12_X7 rfl (by decide : kd 553 = (0, 5)) (show 553 < 572 by decide) dX7_readDigit_31 (fun _ => rfl) ?_
      refine g_aload_n 0 dX7_readDigit_34 rfl ?_
      refine r_get (.int (v.1 553 3)) f_X7_41_X7 rfl (by decide : kd 553 = (0, 5)) (show 553 < 572 by decide) dX7_readDigit_35 (fun _ => rfl) ?_
      obtain ⟨h5, hp⟩ := hp
      refine g_callV (rest := []) s_X7_49_J4 rfl (c_J4_charAt_5068e (E := E) (d := d - 1) 554 (Or.inl rfl) (by omega) (v.1 553 3) v h5) (by decide : kd 554 = (0, 10)) (show 554 < 572 by decide) rfl rfl (Nat.le_of_ble_eq_true rfl) (by omega) (by decide) (by decide) dX7_readDigit_38 (adV ?_) axN
      refine g_bipush dX7_readDigit_41 (57 : Int32) (by decide) ?_
      refine g_icmp_le 48 dX7_readDigit_43 (by decide) (fun h6 => ?_) (fun h6 => ?_)
      · have hQ := qp (P := gqIV Q) h6 hQ
        have hp := hp.1 h6
        refine g_aload_n 0 dX7_readDigit_48 rfl ?_
        refine r_get (.ref (gX E + 554)) f_X7_12_X7 rfl (by decide : kd 553 = (0, 5)) (show 553 < 572 by decide) dX7_readDigit_49 (fun _ => rfl) ?_
        refine g_aload_n 0 dX7_readDigit_52 rfl ?_
        refine r_get (.int (v.1 553 3)) f_X7_41_X7 rfl (by decide : kd 553 = (0, 5)) (show 553 < 572 by decide) dX7_readDigit_53 (fun _ => rfl) ?_
        obtain ⟨h7, hp⟩ := hp
        refine g_callV (rest := []) s_X7_49_J4 rfl (c_J4_charAt_5068e (E := E) (d := d - 1) 554 (Or.inl rfl) (by omega) (v.1 553 3) v h7) (by decide : kd 554 = (0, 10)) (show 554 < 572 by decide) rfl rfl (Nat.le_of_ble_eq_true rfl) (by omega) (by decide) (by decide) dX7_readDigit_56 (adV ?_) axN
        refine g_bipush dX7_readDigit_59 (48 : Int32) (by decide) ?_
        refine g_isub dX7_readDigit_61 ?_
        refine g_istore_n [(1, .int ((f_J4_charAt_5068e 554 (v.1 553 3) v) - (48 : Int32))), (0, .ref (gX E + 553))] dX7_readDigit_62 rfl (by decide) rfl ?_
        refine g_aload_n 1 dX7_readDigit_63 rfl ?_
        refine g_dup dX7_readDigit_64 rfl ?_
        refine r_get (.int (v.1 553 3)) f_X7_41_X7 rfl (by decide : kd 553 = (0, 5)) (show 553 < 572 by decide) dX7_readDigit_65 (fun _ => rfl) ?_
        refine g_iconst dX7_readDigit_68 (1 : Int32) (by decide) ?_
        refine g_iadd dX7_readDigit_69 ?_
        refine r_putS pf_X7_41_X7 rfl dX7_readDigit_70 ?_
        refine g_lv (lv' := [(1, .int ((f_J4_charAt_5068e 554 (v.1 553 3) v) - (48 : Int32)))]) [0] rfl ?_
        exact w_X7_readDigit_73  hd    ((f_J4_charAt_5068e 554 (v.1 553 3) v) - (48 : Int32)) (vM v 553 3 ((v.1 553 3) + (1 : Int32))) hp hQ
      · have hQ := qn (P := gqIV Q) h6 hQ
        have hp := hp.2 h6
        refine g_lv (lv' := []) [] rfl ?_
        exact w_X7_readDigit_46  hd     v hp hQ
def f_X7_readDigit   (v : gV) : Int32 × gV := f_X7_readDigit_0  v
def p_X7_readDigit   (v : gV) : Prop := p_X7_readDigit_0  v
theorem c_X7_readDigit {E : gE} {d : Nat}   (hd : 6 ≤ d)  (v : gV) (hp : p_X7_readDigit  v) : CT E m_X7_readDigit d 0 0 [.ref (gX E + 553)] (rS v) (Cq (.inl (some (.int ((f_X7_readDigit  v).1)))) (f_X7_readDigit  v).2) := CT.of ok_X7_readDigit rfl (Nat.le_of_ble_eq_true rfl) (w_X7_readDigit_0  hd  v hp ⟨rfl, rfl⟩)
def f_X7_readCharacter_68  (x2 : Int32) (v : gV) : Int32 × gV := (x2, v)
def p_X7_readCharacter_68  (x2 : Int32) (v : gV) : Prop := True
set_option maxHeartbeats 4000000 in
set_option maxRecDepth 100000 in
theorem w_X7_readCharacter_68 {E : gE} {d : Nat} {Q : gO → gS → Prop}   (hd : 6 ≤ d) (x2 : Int32) (v : gV) (hp : p_X7_readCharacter_68   x2 v) (hQ : gqIV Q (f_X7_readCharacter_68  x2 v)) : gG E m_X7_readCharacter d Q 0 0 (rS v) 68 [(2, .int x2)] [] := by
  refine g_iload_n 0 dX7_readCharacter_68 rfl ?_
  exact g_iret rfl dX7_readCharacter_69 hQ
def f_X7_readCharacter_51  (x2 : Int32) (s0 : Int32) (v : gV) : Int32 × gV := if s0 = 0 then (((-1 : Int32), v)) else (f_X7_readCharacter_68  x2 (vM v 553 3 ((v.1 553 3) + (1 : Int32))))
def p_X7_readCharacter_51  (x2 : Int32) (s0 : Int32) (v : gV) : Prop := ((s0 = 0) → (True)) ∧ (¬ (s0 = 0) → (p_X7_readCharacter_68   x2 (vM v 553 3 ((v.1 553 3) + (1 : Int32)))))
set_option maxHeartbeats 4000000 in
set_option maxRecDepth 100000 in
theorem w_X7_readCharacter_51 {E : gE} {d : Nat} {Q : gO → gS → Prop}   (hd : 6 ≤ d) (x2 : Int32) (s0 : Int32) (v : gV) (hp : p_X7_readCharacter_51   x2 s0 v) (hQ : gqIV Q (f_X7_readCharacter_51  x2 s0 v)) : gG E m_X7_readCharacter d Q 0 0 (rS v) 51 [(0, .ref (gX E + 553)), (2, .int x2)] [.int s0] := by
  refine g_istore_n [(3, .int s0), (0, .ref (gX E + 553)), (2, .int x2)] dX7_readCharacter_51 rfl (by decide) rfl ?_
  refine g_iload_n 0 dX7_readCharacter_52 rfl ?_
  refine g_if_ne 58 dX7_readCharacter_53 (by decide) (fun h6 => ?_) (fun h6 => ?_)
  · have hQ := qn (P := gqIV Q) h6 hQ
    have hp := hp.2 h6
    refine g_aload_n 1 dX7_readCharacter_58 rfl ?_
    refine g_dup dX7_readCharacter_59 rfl ?_
    refine r_get (.int (v.1 553 3)) f_X7_41_X7 rfl (by decide : kd 553 = (0, 5)) (show 553 < 572 by decide) dX7_readCharacter_60 (fun _ => rfl) ?_
    refine g_iconst dX7_readCharacter_63 (1 : Int32) (by decide) ?_
    refine g_iadd dX7_readCharacter_64 ?_
    refine r_putS pf_X7_41_X7 rfl dX7_readCharacter_65 ?_
    refine g_lv (lv' := [(2, .int x2)]) [2] rfl ?_
    exact w_X7_readCharacter_68  hd    x2 (vM v 553 3 ((v.1 553 3) + (1 : Int32))) hp hQ
  · have hQ := qp (P := gqIV Q) h6 hQ
    have hp := hp.1 h6
    refine g_iconst dX7_readCharacter_56 (-1 : Int32) (by decide) ?_
    exact g_iret rfl dX7_readCharacter_57 hQ
def f_X7_readCharacter_0  (x1 : Int32) (v : gV) : Int32 × gV := if (v.1 553 3) < (f_J4_length_8abf5 554 v) then (if x1 = (67 : Int32) then (f_X7_readCharacter_51  (f_J4_charAt_5068e 554 (v.1 553 3) v) (f_X11_isCause (f_J4_charAt_5068e 554 (v.1 553 3) v) v) v) else (if (f_J4_charAt_5068e 554 (v.1 553 3) v) = x1 then (f_X7_readCharacter_51  (f_J4_charAt_5068e 554 (v.1 553 3) v) (1 : Int32) v) else (f_X7_readCharacter_51  (f_J4_charAt_5068e 554 (v.1 553 3) v) (0 : Int32) v))) else (((-1 : Int32), v))
def p_X7_readCharacter_0  (x1 : Int32) (v : gV) : Prop := (p_J4_length_8abf5 554 v) ∧ ((((v.1 553 3) < (f_J4_length_8abf5 554 v)) → ((p_J4_charAt_5068e 554 (v.1 553 3) v) ∧ (((x1 = (67 : Int32)) → ((p_X11_isCause (f_J4_charAt_5068e 554 (v.1 553 3) v) v) ∧ (p_X7_readCharacter_51   (f_J4_charAt_5068e 554 (v.1 553 3) v) (f_X11_isCause (f_J4_charAt_5068e 554 (v.1 553 3) v) v) v))) ∧ (¬ (x1 = (67 : Int32)) → ((((f_J4_charAt_5068e 554 (v.1 553 3) v) = x1) → (p_X7_readCharacter_51   (f_J4_charAt_5068e 554 (v.1 553 3) v) (1 : Int32) v)) ∧ (¬ ((f_J4_charAt_5068e 554 (v.1 553 3) v) = x1) → (p_X7_readCharacter_51   (f_J4_charAt_5068e 554 (v.1 553 3) v) (0 : Int32) v))))))) ∧ (¬ ((v.1 553 3) < (f_J4_length_8abf5 554 v)) → (True)))
set_option maxHeartbeats 4000000 in
set_option maxRecDepth 100000 in
theorem w_X7_readCharacter_0 {E : gE} {d : Nat} {Q : gO → gS → Prop}   (hd : 6 ≤ d) (x1 : Int32) (v : gV) (hp : p_X7_readCharacter_0   x1 v) (hQ : gqIV Q (f_X7_readCharacter_0  x1 v)) : gG E m_X7_readCharacter d Q 0 0 (rS v) 0 [(0, .ref (gX E + 553)), (1, .int x1)] [] := by
  refine g_aload_n 0 dX7_readCharacter_0 rfl ?_
  refine r_get (.int (v.1 553 3)) f_X7_41_X7 rfl (by decide : kd 553 = (0, 5)) (show 553 < 572 by decide) dX7_readCharacter_1 (fun _ => rfl) ?_
  refine g_aload_n 0 dX7_readCharacter_4 rfl ?_
  refine r_get (.ref (gX E + 554)) f_X7_12_X7 rfl (by decide : kd 553 = (0, 5)) (show 553 < 572 by decide) dX7_readCharacter_5 (fun _ => rfl) ?_
  obtain ⟨h1, hp⟩ := hp
  refine g_callV (rest := [.int (v.1 553 3)]) s_X7_22_J4 rfl (c_J4_length_8abf5 (E := E) (d := d - 1) 554 (Or.inl rfl) (by omega)  v h1) (by decide : kd 554 = (0, 10)) (show 554 < 572 by decide) rfl rfl (Nat.le_of_ble_eq_true rfl) (by omega) (by decide) (by decide) dX7_readCharacter_8 (adV ?_) axN
  refine g_icmp_lt 16 dX7_readCharacter_11 (by decide) (fun h2 => ?_) (fun h2 => ?_)
  · have hQ := qp (P := gqIV Q) h2 hQ
    have hp := hp.1 h2
    refine g_aload_n 0 dX7_readCharacter_16 rfl ?_
    refine r_get (.ref (gX E + 554)) f_X7_12_X7 rfl (by decide : kd 553 = (0, 5)) (show 553 < 572 by decide) dX7_readCharacter_17 (fun _ => rfl) ?_
    refine g_aload_n 0 dX7_readCharacter_20 rfl ?_
    refine r_get (.int (v.1 553 3)) f_X7_41_X7 rfl (by decide : kd 553 = (0, 5)) (show 553 < 572 by decide) dX7_readCharacter_21 (fun _ => rfl) ?_
    obtain ⟨h3, hp⟩ := hp
    refine g_callV (rest := []) s_X7_49_J4 rfl (c_J4_charAt_5068e (E := E) (d := d - 1) 554 (Or.inl rfl) (by omega) (v.1 553 3) v h3) (by decide : kd 554 = (0, 10)) (show 554 < 572 by decide) rfl rfl (Nat.le_of_ble_eq_true rfl) (by omega) (by decide) (by decide) dX7_readCharacter_24 (adV ?_) axN
    refine g_istore_n [(2, .int ((f_J4_charAt_5068e 554 (v.1 553 3) v))), (0, .ref (gX E + 553)), (1, .int x1)] dX7_readCharacter_27 rfl (by decide) rfl ?_
    refine g_iload_n 2 dX7_readCharacter_28 rfl ?_
    refine g_bipush dX7_readCharacter_29 (67 : Int32) (by decide) ?_
    refine g_icmp_ne 41 dX7_readCharacter_31 (by decide) (fun h4 => ?_) (fun h4 => ?_)
    · have hQ := qn (P := gqIV Q) h4 hQ
      have hp := hp.2 h4
      refine g_iload_n 0 dX7_readCharacter_41 rfl ?_
      refine g_iload_n 2 dX7_readCharacter_42 rfl ?_
      refine g_icmp_ne 50 dX7_readCharacter_43 (by decide) (fun h5 => ?_) (fun h5 => ?_)
      · have hQ := qn (P := gqIV Q) h5 hQ
        have hp := hp.2 h5
        refine g_iconst dX7_readCharacter_50 (0 : Int32) (by decide) ?_
        refine g_lv (lv' := [(0, .ref (gX E + 553)), (2, .int ((f_J4_charAt_5068e 554 (v.1 553 3) v)))]) [1, 0] rfl ?_
        exact w_X7_readCharacter_51  hd    (f_J4_charAt_5068e 554 (v.1 553 3) v) (0 : Int32) v hp hQ
      · have hQ := qp (P := gqIV Q) h5 hQ
        have hp := hp.1 h5
        refine g_iconst dX7_readCharacter_46 (1 : Int32) (by decide) ?_
        refine g_goto 51 dX7_readCharacter_47 (by decide) ?_
        refine g_lv (lv' := [(0, .ref (gX E + 553)), (2, .int ((f_J4_charAt_5068e 554 (v.1 553 3) v)))]) [1, 0] rfl ?_
        exact w_X7_readCharacter_51  hd    (f_J4_charAt_5068e 554 (v.1 553 3) v) (1 : Int32) v hp hQ
    · have hQ := qp (P := gqIV Q) h4 hQ
      have hp := hp.1 h4
      refine g_iload_n 0 dX7_readCharacter_34 rfl ?_
      obtain ⟨h7, hp⟩ := hp
      refine g_callN (rest := []) s_X7_102 rfl (c_X11_isCause (E := E) (d := d - 1)   (by omega) (f_J4_charAt_5068e 554 (v.1 553 3) v) v h7) rfl rfl (Nat.le_of_ble_eq_true rfl) (by omega) (by decide) (by decide) dX7_readCharacter_35 (adV ?_) axN
      refine g_goto 51 dX7_readCharacter_38 (by decide) ?_
      refine g_lv (lv' := [(0, .ref (gX E + 553)), (2, .int ((f_J4_charAt_5068e 554 (v.1 553 3) v)))]) [1, 0] rfl ?_
      exact w_X7_readCharacter_51  hd    (f_J4_charAt_5068e 554 (v.1 553 3) v) (f_X11_isCause (f_J4_charAt_5068e 554 (v.1 553 3) v) v) v hp hQ
  · have hQ := qn (P := gqIV Q) h2 hQ
    have hp := hp.2 h2
    refine g_iconst dX7_readCharacter_14 (-1 : Int32) (by decide) ?_
    exact g_iret rfl dX7_readCharacter_15 hQ
def f_X7_readCharacter  (x1 : Int32) (v : gV) : Int32 × gV := f_X7_readCharacter_0 x1 v
def p_X7_readCharacter  (x1 : Int32) (v : gV) : Prop := p_X7_readCharacter_0 x1 v
theorem c_X7_readCharacter {E : gE} {d : Nat}   (hd : 6 ≤ d) (x1 : Int32) (v : gV) (hp : p_X7_readCharacter x1 v) : CT E m_X7_readCharacter d 0 0 [.ref (gX E + 553), .int x1] (rS v) (Cq (.inl (some (.int ((f_X7_readCharacter x1 v).1)))) (f_X7_readCharacter x1 v).2) := CT.of ok_X7_readCharacter rfl (Nat.le_of_ble_eq_true rfl) (w_X7_readCharacter_0  hd x1 v hp ⟨rfl, rfl⟩)
def f_X7_readNumber_30  (s0 : Int32) (v : gV) : Int32 × gV := (s0, v)
def p_X7_readNumber_30  (s0 : Int32) (v : gV) : Prop := True
set_option maxHeartbeats 4000000 in
set_option maxRecDepth 100000 in
theorem w_X7_readNumber_30 {E : gE} {d : Nat} {Q : gO → gS → Prop}   (hd : 7 ≤ d) (s0 : Int32) (v : gV) (hp : p_X7_readNumber_30   s0 v) (hQ : gqIV Q (f_X7_readNumber_30  s0 v)) : gG E m_X7_readNumber d Q 0 0 (rS v) 30 [] [.int s0] := by
  exact g_iret rfl dX7_readNumber_30 hQ
def f_X7_readNumber_15  (x1 : Int32) (s0 : Int32) (v : gV) : Int32 × gV := if 0 ≤ s0 then (f_X7_readNumber_30  ((x1 * (10 : Int32)) + s0) v) else (f_X7_readNumber_30  x1 v)
def p_X7_readNumber_15  (x1 : Int32) (s0 : Int32) (v : gV) : Prop := ((0 ≤ s0) → (p_X7_readNumber_30   ((x1 * (10 : Int32)) + s0) v)) ∧ (¬ (0 ≤ s0) → (p_X7_readNumber_30   x1 v))
set_option maxHeartbeats 4000000 in
set_option maxRecDepth 100000 in
theorem w_X7_readNumber_15 {E : gE} {d : Nat} {Q : gO → gS → Prop}   (hd : 7 ≤ d) (x1 : Int32) (s0 : Int32) (v : gV) (hp : p_X7_readNumber_15   x1 s0 v) (hQ : gqIV Q (f_X7_readNumber_15  x1 s0 v)) : gG E m_X7_readNumber d Q 0 0 (rS v) 15 [(1, .int x1)] [.int s0] := by
  refine g_istore_n [(2, .int s0), (1, .int x1)] dX7_readNumber_15 rfl (by decide) rfl ?_
  refine g_iload_n 0 dX7_readNumber_16 rfl ?_
  refine g_if_ge 24 dX7_readNumber_17 (by decide) (fun h4 => ?_) (fun h4 => ?_)
  · have hQ := qp (P := gqIV Q) h4 hQ
    have hp := hp.1 h4
    refine g_iload_n 1 dX7_readNumber_24 rfl ?_
    refine g_bipush dX7_readNumber_25 (10 : Int32) (by decide) ?_
    refine g_imul dX7_readNumber_27 ?_
    refine g_iload_n 0 dX7_readNumber_28 rfl ?_
    refine g_iadd dX7_readNumber_29 ?_
    refine g_lv (lv' := []) [] rfl ?_
    exact w_X7_readNumber_30  hd    ((x1 * (10 : Int32)) + s0) v hp hQ
  · have hQ := qn (P := gqIV Q) h4 hQ
    have hp := hp.2 h4
    refine g_iload_n 1 dX7_readNumber_20 rfl ?_
    refine g_goto 30 dX7_readNumber_21 (by decide) ?_
    refine g_lv (lv' := []) [] rfl ?_
    exact w_X7_readNumber_30  hd    x1 v hp hQ
def f_X7_readNumber_4  (s0 : Int32) (v : gV) : Int32 × gV := if 0 ≤ s0 then (f_X7_readNumber_15  s0 ((f_X7_readDigit  v).1) (f_X7_readDigit  v).2) else (((-1 : Int32), v))
def p_X7_readNumber_4  (s0 : Int32) (v : gV) : Prop := ((0 ≤ s0) → ((p_X7_readDigit  v) ∧ (p_X7_readNumber_15   s0 ((f_X7_readDigit  v).1) (f_X7_readDigit  v).2))) ∧ (¬ (0 ≤ s0) → (True))
set_option maxHeartbeats 4000000 in
set_option maxRecDepth 100000 in
theorem w_X7_readNumber_4 {E : gE} {d : Nat} {Q : gO → gS → Prop}   (hd : 7 ≤ d) (s0 : Int32) (v : gV) (hp : p_X7_readNumber_4   s0 v) (hQ : gqIV Q (f_X7_readNumber_4  s0 v)) : gG E m_X7_readNumber d Q 0 0 (rS v) 4 [(0, .ref (gX E + 553))] [.int s0] := by
  refine g_istore_n [(1, .int s0), (0, .ref (gX E + 553))] dX7_readNumber_4 rfl (by decide) rfl ?_
  refine g_iload_n 0 dX7_readNumber_5 rfl ?_
  refine g_if_ge 11 dX7_readNumber_6 (by decide) (fun h2 => ?_) (fun h2 => ?_)
  · have hQ := qp (P := gqIV Q) h2 hQ
    have hp := hp.1 h2
    refine g_aload_n 1 dX7_readNumber_11 rfl ?_
    obtain ⟨h3, hp⟩ := hp
    refine g_callV (rest := []) s_X7_96_X7 rfl (c_X7_readDigit (E := E) (d := d - 1)   (by omega)  v h3) (by decide : kd 553 = (0, 5)) (show 553 < 572 by decide) rfl rfl (Nat.le_of_ble_eq_true rfl) (by omega) (by decide) (by decide) dX7_readNumber_12 (adV ?_) axN
    refine g_lv (lv' := [(1, .int s0)]) [0] rfl ?_
    exact w_X7_readNumber_15  hd    s0 ((f_X7_readDigit  v).1) (f_X7_readDigit  v).2 hp hQ
  · have hQ := qn (P := gqIV Q) h2 hQ
    have hp := hp.2 h2
    refine g_iconst dX7_readNumber_9 (-1 : Int32) (by decide) ?_
    exact g_iret rfl dX7_readNumber_10 hQ
def f_X7_readNumber_0   (v : gV) : Int32 × gV := f_X7_readNumber_4  ((f_X7_readDigit  v).1) (f_X7_readDigit  v).2
def p_X7_readNumber_0   (v : gV) : Prop := (p_X7_readDigit  v) ∧ (p_X7_readNumber_4   ((f_X7_readDigit  v).1) (f_X7_readDigit  v).2)
set_option maxHeartbeats 4000000 in
set_option maxRecDepth 100000 in
theorem w_X7_readNumber_0 {E : gE} {d : Nat} {Q : gO → gS → Prop}   (hd : 7 ≤ d)  (v : gV) (hp : p_X7_readNumber_0    v) (hQ : gqIV Q (f_X7_readNumber_0   v)) : gG E m_X7_readNumber d Q 0 0 (rS v) 0 [(0, .ref (gX E + 553))] [] := by
  refine g_aload_n 0 dX7_readNumber_0 rfl ?_
  obtain ⟨h1, hp⟩ := hp
  refine g_callV (rest := []) s_X7_96_X7 rfl (c_X7_readDigit (E := E) (d := d - 1)   (by omega)  v h1) (by decide : kd 553 = (0, 5)) (show 553 < 572 by decide) rfl rfl (Nat.le_of_ble_eq_true rfl) (by omega) (by decide) (by decide) dX7_readNumber_1 (adV ?_) axN
  exact w_X7_readNumber_4  hd    ((f_X7_readDigit  v).1) (f_X7_readDigit  v).2 hp hQ
def f_X7_readNumber   (v : gV) : Int32 × gV := f_X7_readNumber_0  v
def p_X7_readNumber   (v : gV) : Prop := p_X7_readNumber_0  v
theorem c_X7_readNumber {E : gE} {d : Nat}   (hd : 7 ≤ d)  (v : gV) (hp : p_X7_readNumber  v) : CT E m_X7_readNumber d 0 0 [.ref (gX E + 553)] (rS v) (Cq (.inl (some (.int ((f_X7_readNumber  v).1)))) (f_X7_readNumber  v).2) := CT.of ok_X7_readNumber rfl (Nat.le_of_ble_eq_true rfl) (w_X7_readNumber_0  hd  v hp ⟨rfl, rfl⟩)
def f_X11_writePolicy_140   (v : gV) : (Int32 ⊕ String) × gV := (Sum.inl (f_J4_length_8abf5 557 v), v)
def p_X11_writePolicy_140   (v : gV) : Prop := (p_J4_length_8abf5 557 v) ∧ (True)
set_option maxHeartbeats 4000000 in
set_option maxRecDepth 100000 in
theorem w_X11_writePolicy_140 {E : gE} {d : Nat} {Q : gO → gS → Prop}   (hd : 8 ≤ d)  (v : gV) (hp : p_X11_writePolicy_140    v) (hQ : gqTIV Q (f_X11_writePolicy_140   v)) : gG E m_X11_writePolicy d Q 0 0 (rS v) 140 [(0, .ref (gX E + 0))] [] := by
  refine g_aload_n 0 dX11_writePolicy_140 rfl ?_
  refine r_get (.ref (gX E + 557)) f_X11_36_X11 rfl (by decide : kd 0 = (0, 8)) (show 0 < 572 by decide) dX11_writePolicy_141 (fun _ => rfl) ?_
  obtain ⟨h18, hp⟩ := hp
  refine g_callV (rest := []) s_X11_293_J4 rfl (c_J4_length_8abf5 (E := E) (d := d - 1) 557 (Or.inr rfl) (by omega)  v h18) (by decide : kd 557 = (0, 10)) (show 557 < 572 by decide) rfl rfl (Nat.le_of_ble_eq_true rfl) (by omega) (by decide) (by decide) dX11_writePolicy_144 (adV ?_) axN
  exact g_iret rfl dX11_writePolicy_147 hQ
def f_X11_writePolicy_139   (v : gV) : (Int32 ⊕ String) × gV := f_X11_writePolicy_140   v
def p_X11_writePolicy_139   (v : gV) : Prop := p_X11_writePolicy_140    v
set_option maxHeartbeats 4000000 in
set_option maxRecDepth 100000 in
theorem w_X11_writePolicy_139 {E : gE} {d : Nat} {Q : gO → gS → Prop}   (hd : 8 ≤ d)  (v : gV) (hp : p_X11_writePolicy_139    v) (hQ : gqTIV Q (f_X11_writePolicy_139   v)) : gG E m_X11_writePolicy d Q 0 0 (rS v) 139 [(0, .ref (gX E + 0))] [.ref (gX E + 557)] := by
  refine g_pop dX11_writePolicy_139 rfl ?_
  exact w_X11_writePolicy_140  hd     v hp hQ
def f_X11_writePolicy_108  (x2 : Int32) (v : gV) : (Int32 ⊕ String) × gV := if (f_X5_isActiveAt 1 x2 (v.1 1 5) v) = 0 then (f_X11_writePolicy_139   (f_J4_append_cf468 557 (33 : Int32) v)) else (f_X11_writePolicy_140   v)
def p_X11_writePolicy_108  (x2 : Int32) (v : gV) : Prop := (p_X5_isActiveAt 1 x2 (v.1 1 5) v) ∧ ((((f_X5_isActiveAt 1 x2 (v.1 1 5) v) = 0) → ((p_J4_append_cf468 557 (33 : Int32) v) ∧ (p_X11_writePolicy_139    (f_J4_append_cf468 557 (33 : Int32) v)))) ∧ (¬ ((f_X5_isActiveAt 1 x2 (v.1 1 5) v) = 0) → (p_X11_writePolicy_140    v)))
set_option maxHeartbeats 4000000 in
set_option maxRecDepth 100000 in
theorem w_X11_writePolicy_108 {E : gE} {d : Nat} {Q : gO → gS → Prop}   (hd : 8 ≤ d) (x2 : Int32) (v : gV) (hp : p_X11_writePolicy_108   x2 v) (hQ : gqTIV Q (f_X11_writePolicy_108  x2 v)) : gG E m_X11_writePolicy d Q 1 256 (rS v) 108 [(0, .ref (gX E + 0)), (2, .int x2)] [.ref (gX E + 557)] := by
  refine g_pop dX11_writePolicy_108 rfl ?_
  refine g_aload_n 0 dX11_writePolicy_109 rfl ?_
  refine r_get (.ref (gX E + 1)) f_X11_10_X11 rfl (by decide : kd 0 = (0, 8)) (show 0 < 572 by decide) dX11_writePolicy_110 (fun _ => rfl) ?_
  refine r_get (.ref (gX E + (1 + 1))) f_X11_108_X1 rfl (kbz isBk_1) (lt_b0 isBk_1) dX11_writePolicy_113 (fun _ => rfl) ?_
  refine g_iload_n 1 dX11_writePolicy_116 rfl ?_
  refine g_aload_n 0 dX11_writePolicy_117 rfl ?_
  refine r_get (.ref (gX E + 1)) f_X11_10_X11 rfl (by decide : kd 0 = (0, 8)) (show 0 < 572 by decide) dX11_writePolicy_118 (fun _ => rfl) ?_
  refine r_get (.int (v.1 1 5)) f_X11_102_X1 rfl (kbz isBk_1) (lt_b0 isBk_1) dX11_writePolicy_121 (fun _ => rfl) ?_
  obtain ⟨h16, hp⟩ := hp
  refine g_callV (rest := []) s_X11_142_X5 rfl (c_X5_isActiveAt (E := E) (d := d - 1) 1 isBk_1 (by omega) x2 (v.1 1 5) v h16) (kb_1 isBk_1) (lt_b isBk_1 (by decide)) rfl rfl (Nat.le_of_ble_eq_true rfl) (by omega) (by decide) (by decide) dX11_writePolicy_124 (adV ?_) axN
  refine g_if_ne 140 dX11_writePolicy_127 (by decide) (fun h17 => ?_) (fun h17 => ?_)
  · have hQ := qn (P := gqTIV Q) h17 hQ
    have hp := hp.2 h17
    refine g_room (k' := 0) (n' := 0) (by decide) (by decide) ?_
    refine g_lv (lv' := [(0, .ref (gX E + 0))]) [0] rfl ?_
    exact w_X11_writePolicy_140  hd     v hp hQ
  · have hQ := qp (P := gqTIV Q) h17 hQ
    have hp := hp.1 h17
    refine g_aload_n 0 dX11_writePolicy_130 rfl ?_
    refine r_get (.ref (gX E + 557)) f_X11_36_X11 rfl (by decide : kd 0 = (0, 8)) (show 0 < 572 by decide) dX11_writePolicy_131 (fun _ => rfl) ?_
    refine g_bipush dX11_writePolicy_134 (33 : Int32) (by decide) ?_
    obtain ⟨h19, hp⟩ := hp
    refine g_callV (rest := []) s_X11_286_J4 rfl (c_J4_append_cf468 (E := E) (d := d - 1) 557 (Or.inr rfl) (by omega) (33 : Int32) v h19) (by decide : kd 557 = (0, 10)) (show 557 < 572 by decide) rfl rfl (Nat.le_of_ble_eq_true rfl) (by omega) (by decide) (by decide) dX11_writePolicy_136 (adV ?_) axN
    refine g_lv (lv' := [(0, .ref (gX E + 0))]) [0] rfl ?_
    exact w_X11_writePolicy_139  hd     (f_J4_append_cf468 557 (33 : Int32) v) hp hQ
def f_X11_writePolicy_93  (x2 : Int32) (v : gV) : (Int32 ⊕ String) × gV := f_X11_writePolicy_108  x2 (f_J4_append_bf812 557 (v.1 (1 + 6) x2.toNatClampNeg) v)
def p_X11_writePolicy_93  (x2 : Int32) (v : gV) : Prop := (vp_in x2 8) ∧ ((p_J4_append_bf812 557 (v.1 (1 + 6) x2.toNatClampNeg) v) ∧ (p_X11_writePolicy_108   x2 (f_J4_append_bf812 557 (v.1 (1 + 6) x2.toNatClampNeg) v)))
set_option maxHeartbeats 4000000 in
set_option maxRecDepth 100000 in
theorem w_X11_writePolicy_93 {E : gE} {d : Nat} {Q : gO → gS → Prop}   (hd : 8 ≤ d) (x2 : Int32) (v : gV) (hp : p_X11_writePolicy_93   x2 v) (hQ : gqTIV Q (f_X11_writePolicy_93  x2 v)) : gG E m_X11_writePolicy d Q 2 512 (rS v) 93 [(0, .ref (gX E + 0)), (2, .int x2)] [.ref (gX E + 557)] := by
  refine g_aload_n 0 dX11_writePolicy_93 rfl ?_
  refine r_get (.ref (gX E + 1)) f_X11_10_X11 rfl (by decide : kd 0 = (0, 8)) (show 0 < 572 by decide) dX11_writePolicy_94 (fun _ => rfl) ?_
  refine r_get (.ref (gX E + (1 + 1))) f_X11_108_X1 rfl (kbz isBk_1) (lt_b0 isBk_1) dX11_writePolicy_97 (fun _ => rfl) ?_
  refine r_get (.ref (gX E + (1 + 6))) f_X11_139_X5 rfl (kb_1 isBk_1) (lt_b isBk_1 (by decide)) dX11_writePolicy_100 (fun _ => rfl) ?_
  refine g_iload_n 1 dX11_writePolicy_103 rfl ?_
  obtain ⟨h14, hp⟩ := hp
  refine g_iald (kb_6 isBk_1) (lt_b isBk_1 (by decide)) h14 dX11_writePolicy_104 ?_
  obtain ⟨h15, hp⟩ := hp
  refine g_callV (rest := []) s_X11_290_J4 rfl (c_J4_append_bf812 (E := E) (d := d - 1) 557 (Or.inr rfl) (by omega) (v.1 (1 + 6) x2.toNatClampNeg) v h15) (by decide : kd 557 = (0, 10)) (show 557 < 572 by decide) rfl rfl (Nat.le_of_ble_eq_true rfl) (by omega) (by decide) (by decide) dX11_writePolicy_105 (adV ?_) axN
  exact w_X11_writePolicy_108  hd    x2 (f_J4_append_bf812 557 (v.1 (1 + 6) x2.toNatClampNeg) v) hp hQ
def f_X11_writePolicy_83  (x2 : Int32) (v : gV) : (Int32 ⊕ String) × gV := f_X11_writePolicy_93  x2 (f_J4_append_cf468 557 (64 : Int32) v)
def p_X11_writePolicy_83  (x2 : Int32) (v : gV) : Prop := (p_J4_append_cf468 557 (64 : Int32) v) ∧ (p_X11_writePolicy_93   x2 (f_J4_append_cf468 557 (64 : Int32) v))
set_option maxHeartbeats 4000000 in
set_option maxRecDepth 100000 in
theorem w_X11_writePolicy_83 {E : gE} {d : Nat} {Q : gO → gS → Prop}   (hd : 8 ≤ d) (x2 : Int32) (v : gV) (hp : p_X11_writePolicy_83   x2 v) (hQ : gqTIV Q (f_X11_writePolicy_83  x2 v)) : gG E m_X11_writePolicy d Q 3 768 (rS v) 83 [(0, .ref (gX E + 0)), (2, .int x2)] [.ref (gX E + 557)] := by
  refine g_pop dX11_writePolicy_83 rfl ?_
  refine g_aload_n 0 dX11_writePolicy_84 rfl ?_
  refine r_get (.ref (gX E + 557)) f_X11_36_X11 rfl (by decide : kd 0 = (0, 8)) (show 0 < 572 by decide) dX11_writePolicy_85 (fun _ => rfl) ?_
  refine g_bipush dX11_writePolicy_88 (64 : Int32) (by decide) ?_
  obtain ⟨h13, hp⟩ := hp
  refine g_callV (rest := []) s_X11_286_J4 rfl (c_J4_append_cf468 (E := E) (d := d - 1) 557 (Or.inr rfl) (by omega) (64 : Int32) v h13) (by decide : kd 557 = (0, 10)) (show 557 < 572 by decide) rfl rfl (Nat.le_of_ble_eq_true rfl) (by omega) (by decide) (by decide) dX11_writePolicy_90 (adV ?_) axN
  exact w_X11_writePolicy_93  hd    x2 (f_J4_append_cf468 557 (64 : Int32) v) hp hQ
def f_X11_writePolicy_68  (x2 : Int32) (v : gV) : (Int32 ⊕ String) × gV := f_X11_writePolicy_83  x2 (f_J4_append_bf812 557 (v.1 (1 + 4) x2.toNatClampNeg) v)
def p_X11_writePolicy_68  (x2 : Int32) (v : gV) : Prop := (vp_in x2 8) ∧ ((p_J4_append_bf812 557 (v.1 (1 + 4) x2.toNatClampNeg) v) ∧ (p_X11_writePolicy_83   x2 (f_J4_append_bf812 557 (v.1 (1 + 4) x2.toNatClampNeg) v)))
set_option maxHeartbeats 4000000 in
set_option maxRecDepth 100000 in
theorem w_X11_writePolicy_68 {E : gE} {d : Nat} {Q : gO → gS → Prop}   (hd : 8 ≤ d) (x2 : Int32) (v : gV) (hp : p_X11_writePolicy_68   x2 v) (hQ : gqTIV Q (f_X11_writePolicy_68  x2 v)) : gG E m_X11_writePolicy d Q 4 1024 (rS v) 68 [(0, .ref (gX E + 0)), (2, .int x2)] [.ref (gX E + 557)] := by
  refine g_aload_n 0 dX11_writePolicy_68 rfl ?_
  refine r_get (.ref (gX E + 1)) f_X11_10_X11 rfl (by decide : kd 0 = (0, 8)) (show 0 < 572 by decide) dX11_writePolicy_69 (fun _ => rfl) ?_
  refine r_get (.ref (gX E + (1 + 1))) f_X11_108_X1 rfl (kbz isBk_1) (lt_b0 isBk_1) dX11_writePolicy_72 (fun _ => rfl) ?_
  refine r_get (.ref (gX E + (1 + 4))) f_X11_133_X5 rfl (kb_1 isBk_1) (lt_b isBk_1 (by decide)) dX11_writePolicy_75 (fun _ => rfl) ?_
  refine g_iload_n 1 dX11_writePolicy_78 rfl ?_
  obtain ⟨h11, hp⟩ := hp
  refine g_iald (kb_4 isBk_1) (lt_b isBk_1 (by decide)) h11 dX11_writePolicy_79 ?_
  obtain ⟨h12, hp⟩ := hp
  refine g_callV (rest := []) s_X11_290_J4 rfl (c_J4_append_bf812 (E := E) (d := d - 1) 557 (Or.inr rfl) (by omega) (v.1 (1 + 4) x2.toNatClampNeg) v h12) (by decide : kd 557 = (0, 10)) (show 557 < 572 by decide) rfl rfl (Nat.le_of_ble_eq_true rfl) (by omega) (by decide) (by decide) dX11_writePolicy_80 (adV ?_) axN
  exact w_X11_writePolicy_83  hd    x2 (f_J4_append_bf812 557 (v.1 (1 + 4) x2.toNatClampNeg) v) hp hQ
def f_X11_writePolicy_58  (x2 : Int32) (v : gV) : (Int32 ⊕ String) × gV := f_X11_writePolicy_68  x2 (f_J4_append_cf468 557 (120 : Int32) v)
def p_X11_writePolicy_58  (x2 : Int32) (v : gV) : Prop := (p_J4_append_cf468 557 (120 : Int32) v) ∧ (p_X11_writePolicy_68   x2 (f_J4_append_cf468 557 (120 : Int32) v))
set_option maxHeartbeats 4000000 in
set_option maxRecDepth 100000 in
theorem w_X11_writePolicy_58 {E : gE} {d : Nat} {Q : gO → gS → Prop}   (hd : 8 ≤ d) (x2 : Int32) (v : gV) (hp : p_X11_writePolicy_58   x2 v) (hQ : gqTIV Q (f_X11_writePolicy_58  x2 v)) : gG E m_X11_writePolicy d Q 5 1280 (rS v) 58 [(0, .ref (gX E + 0)), (2, .int x2)] [.ref (gX E + 557)] := by
  refine g_pop dX11_writePolicy_58 rfl ?_
  refine g_aload_n 0 dX11_writePolicy_59 rfl ?_
  refine r_get (.ref (gX E + 557)) f_X11_36_X11 rfl (by decide : kd 0 = (0, 8)) (show 0 < 572 by decide) dX11_writePolicy_60 (fun _ => rfl) ?_
  refine g_bipush dX11_writePolicy_63 (120 : Int32) (by decide) ?_
  obtain ⟨h10, hp⟩ := hp
  refine g_callV (rest := []) s_X11_286_J4 rfl (c_J4_append_cf468 (E := E) (d := d - 1) 557 (Or.inr rfl) (by omega) (120 : Int32) v h10) (by decide : kd 557 = (0, 10)) (show 557 < 572 by decide) rfl rfl (Nat.le_of_ble_eq_true rfl) (by omega) (by decide) (by decide) dX11_writePolicy_65 (adV ?_) axN
  exact w_X11_writePolicy_68  hd    x2 (f_J4_append_cf468 557 (120 : Int32) v) hp hQ
def f_X11_writePolicy_43  (x2 : Int32) (v : gV) : (Int32 ⊕ String) × gV := f_X11_writePolicy_58  x2 (f_J4_append_bf812 557 (v.1 (1 + 3) x2.toNatClampNeg) v)
def p_X11_writePolicy_43  (x2 : Int32) (v : gV) : Prop := (vp_in x2 8) ∧ ((p_J4_append_bf812 557 (v.1 (1 + 3) x2.toNatClampNeg) v) ∧ (p_X11_writePolicy_58   x2 (f_J4_append_bf812 557 (v.1 (1 + 3) x2.toNatClampNeg) v)))
set_option maxHeartbeats 4000000 in
set_option maxRecDepth 100000 in
theorem w_X11_writePolicy_43 {E : gE} {d : Nat} {Q : gO → gS → Prop}   (hd : 8 ≤ d) (x2 : Int32) (v : gV) (hp : p_X11_writePolicy_43   x2 v) (hQ : gqTIV Q (f_X11_writePolicy_43  x2 v)) : gG E m_X11_writePolicy d Q 6 1536 (rS v) 43 [(0, .ref (gX E + 0)), (2, .int x2)] [.ref (gX E + 557)] := by
  refine g_aload_n 0 dX11_writePolicy_43 rfl ?_
  refine r_get (.ref (gX E + 1)) f_X11_10_X11 rfl (by decide : kd 0 = (0, 8)) (show 0 < 572 by decide) dX11_writePolicy_44 (fun _ => rfl) ?_
  refine r_get (.ref (gX E + (1 + 1))) f_X11_108_X1 rfl (kbz isBk_1) (lt_b0 isBk_1) dX11_writePolicy_47 (fun _ => rfl) ?_
  refine r_get (.ref (gX E + (1 + 3))) f_X11_124_X5 rfl (kb_1 isBk_1) (lt_b isBk_1 (by decide)) dX11_writePolicy_50 (fun _ => rfl) ?_
  refine g_iload_n 1 dX11_writePolicy_53 rfl ?_
  obtain ⟨h8, hp⟩ := hp
  refine g_iald (kb_3 isBk_1) (lt_b isBk_1 (by decide)) h8 dX11_writePolicy_54 ?_
  obtain ⟨h9, hp⟩ := hp
  refine g_callV (rest := []) s_X11_290_J4 rfl (c_J4_append_bf812 (E := E) (d := d - 1) 557 (Or.inr rfl) (by omega) (v.1 (1 + 3) x2.toNatClampNeg) v h9) (by decide : kd 557 = (0, 10)) (show 557 < 572 by decide) rfl rfl (Nat.le_of_ble_eq_true rfl) (by omega) (by decide) (by decide) dX11_writePolicy_55 (adV ?_) axN
  exact w_X11_writePolicy_58  hd    x2 (f_J4_append_bf812 557 (v.1 (1 + 3) x2.toNatClampNeg) v) hp hQ
def f_X11_writePolicy_33  (x2 : Int32) (v : gV) : (Int32 ⊕ String) × gV := f_X11_writePolicy_43  x2 (f_J4_append_cf468 557 (58 : Int32) v)
def p_X11_writePolicy_33  (x2 : Int32) (v : gV) : Prop := (p_J4_append_cf468 557 (58 : Int32) v) ∧ (p_X11_writePolicy_43   x2 (f_J4_append_cf468 557 (58 : Int32) v))
set_option maxHeartbeats 4000000 in
set_option maxRecDepth 100000 in
theorem w_X11_writePolicy_33 {E : gE} {d : Nat} {Q : gO → gS → Prop}   (hd : 8 ≤ d) (x2 : Int32) (v : gV) (hp : p_X11_writePolicy_33   x2 v) (hQ : gqTIV Q (f_X11_writePolicy_33  x2 v)) : gG E m_X11_writePolicy d Q 7 1792 (rS v) 33 [(0, .ref (gX E + 0)), (2, .int x2)] [.ref (gX E + 557)] := by
  refine g_pop dX11_writePolicy_33 rfl ?_
  refine g_aload_n 0 dX11_writePolicy_34 rfl ?_
  refine r_get (.ref (gX E + 557)) f_X11_36_X11 rfl (by decide : kd 0 = (0, 8)) (show 0 < 572 by decide) dX11_writePolicy_35 (fun _ => rfl) ?_
  refine g_bipush dX11_writePolicy_38 (58 : Int32) (by decide) ?_
  obtain ⟨h7, hp⟩ := hp
  refine g_callV (rest := []) s_X11_286_J4 rfl (c_J4_append_cf468 (E := E) (d := d - 1) 557 (Or.inr rfl) (by omega) (58 : Int32) v h7) (by decide : kd 557 = (0, 10)) (show 557 < 572 by decide) rfl rfl (Nat.le_of_ble_eq_true rfl) (by omega) (by decide) (by decide) dX11_writePolicy_40 (adV ?_) axN
  exact w_X11_writePolicy_43  hd    x2 (f_J4_append_cf468 557 (58 : Int32) v) hp hQ
def f_X11_writePolicy_29  (x1 : Int32) (x2 : Int32) (v : gV) : (Int32 ⊕ String) × gV := f_X11_writePolicy_33  x2 (f_J4_append_bf812 557 x1 v)
def p_X11_writePolicy_29  (x1 : Int32) (x2 : Int32) (v : gV) : Prop := (p_J4_append_bf812 557 x1 v) ∧ (p_X11_writePolicy_33   x2 (f_J4_append_bf812 557 x1 v))
set_option maxHeartbeats 4000000 in
set_option maxRecDepth 100000 in
theorem w_X11_writePolicy_29 {E : gE} {d : Nat} {Q : gO → gS → Prop}   (hd : 8 ≤ d) (x1 : Int32) (x2 : Int32) (v : gV) (hp : p_X11_writePolicy_29   x1 x2 v) (hQ : gqTIV Q (f_X11_writePolicy_29  x1 x2 v)) : gG E m_X11_writePolicy d Q 8 2048 (rS v) 29 [(0, .ref (gX E + 0)), (1, .int x1), (2, .int x2)] [.ref (gX E + 557)] := by
  refine g_iload_n 1 dX11_writePolicy_29 rfl ?_
  obtain ⟨h6, hp⟩ := hp
  refine g_callV (rest := []) s_X11_290_J4 rfl (c_J4_append_bf812 (E := E) (d := d - 1) 557 (Or.inr rfl) (by omega) x1 v h6) (by decide : kd 557 = (0, 10)) (show 557 < 572 by decide) rfl rfl (Nat.le_of_ble_eq_true rfl) (by omega) (by decide) (by decide) dX11_writePolicy_30 (adV ?_) axN
  refine g_lv (lv' := [(0, .ref (gX E + 0)), (2, .int x2)]) [0, 2] rfl ?_
  exact w_X11_writePolicy_33  hd    x2 (f_J4_append_bf812 557 x1 v) hp hQ
def f_X11_writePolicy_20  (x1 : Int32) (x2 : Int32) (v : gV) : (Int32 ⊕ String) × gV := f_X11_writePolicy_29  x1 x2 (f_J4_append_cf468 557 (35 : Int32) v)
def p_X11_writePolicy_20  (x1 : Int32) (x2 : Int32) (v : gV) : Prop := (p_J4_append_cf468 557 (35 : Int32) v) ∧ (p_X11_writePolicy_29   x1 x2 (f_J4_append_cf468 557 (35 : Int32) v))
set_option maxHeartbeats 4000000 in
set_option maxRecDepth 100000 in
theorem w_X11_writePolicy_20 {E : gE} {d : Nat} {Q : gO → gS → Prop}   (hd : 8 ≤ d) (x1 : Int32) (x2 : Int32) (v : gV) (hp : p_X11_writePolicy_20   x1 x2 v) (hQ : gqTIV Q (f_X11_writePolicy_20  x1 x2 v)) : gG E m_X11_writePolicy d Q 9 2304 (rS v) 20 [(0, .ref (gX E + 0)), (1, .int x1), (2, .int x2)] [] := by
  refine g_aload_n 0 dX11_writePolicy_20 rfl ?_
  refine r_get (.ref (gX E + 557)) f_X11_36_X11 rfl (by decide : kd 0 = (0, 8)) (show 0 < 572 by decide) dX11_writePolicy_21 (fun _ => rfl) ?_
  refine g_bipush dX11_writePolicy_24 (35 : Int32) (by decide) ?_
  obtain ⟨h5, hp⟩ := hp
  refine g_callV (rest := []) s_X11_286_J4 rfl (c_J4_append_cf468 (E := E) (d := d - 1) 557 (Or.inr rfl) (by omega) (35 : Int32) v h5) (by decide : kd 557 = (0, 10)) (show 557 < 572 by decide) rfl rfl (Nat.le_of_ble_eq_true rfl) (by omega) (by decide) (by decide) dX11_writePolicy_26 (adV ?_) axN
  exact w_X11_writePolicy_29  hd    x1 x2 (f_J4_append_cf468 557 (35 : Int32) v) hp hQ
def f_X11_writePolicy_11  (x1 : Int32) (s0 : Int32) (v : gV) : (Int32 ⊕ String) × gV := f_X11_writePolicy_20  x1 s0 (f_J4_setLength_d00df 557 (0 : Int32) v)
def p_X11_writePolicy_11  (x1 : Int32) (s0 : Int32) (v : gV) : Prop := (p_J4_setLength_d00df 557 (0 : Int32) v) ∧ (p_X11_writePolicy_20   x1 s0 (f_J4_setLength_d00df 557 (0 : Int32) v))
set_option maxHeartbeats 4000000 in
set_option maxRecDepth 100000 in
theorem w_X11_writePolicy_11 {E : gE} {d : Nat} {Q : gO → gS → Prop}   (hd : 8 ≤ d) (x1 : Int32) (s0 : Int32) (v : gV) (hp : p_X11_writePolicy_11   x1 s0 v) (hQ : gqTIV Q (f_X11_writePolicy_11  x1 s0 v)) : gG E m_X11_writePolicy d Q 10 2560 (rS v) 11 [(0, .ref (gX E + 0)), (1, .int x1)] [.int s0] := by
  refine g_istore_n [(2, .int s0), (0, .ref (gX E + 0)), (1, .int x1)] dX11_writePolicy_11 rfl (by decide) rfl ?_
  refine g_aload_n 1 dX11_writePolicy_12 rfl ?_
  refine r_get (.ref (gX E + 557)) f_X11_36_X11 rfl (by decide : kd 0 = (0, 8)) (show 0 < 572 by decide) dX11_writePolicy_13 (fun _ => rfl) ?_
  refine g_iconst dX11_writePolicy_16 (0 : Int32) (by decide) ?_
  obtain ⟨h4, hp⟩ := hp
  refine g_callV (rest := []) s_X11_282_J4 rfl (c_J4_setLength_d00df (E := E) (d := d - 1) 557 (Or.inr rfl) (by omega) (0 : Int32) v h4) (by decide : kd 557 = (0, 10)) (show 557 < 572 by decide) rfl rfl (Nat.le_of_ble_eq_true rfl) (by omega) (by decide) (by decide) dX11_writePolicy_17 (adN ?_) axN
  refine g_lv (lv' := [(0, .ref (gX E + 0)), (1, .int x1), (2, .int s0)]) [1, 2, 0] rfl ?_
  exact w_X11_writePolicy_20  hd    x1 s0 (f_J4_setLength_d00df 557 (0 : Int32) v) hp hQ
def f_X11_writePolicy_0  (x1 : Int32) (v : gV) : (Int32 ⊕ String) × gV := Sum.elim (fun (sr2 : Int32) => f_X11_writePolicy_11  x1 sr2 v) (fun (e : String) => (Sum.inr e, v)) (f_X6_placeOf_P 1 x1 v)
def p_X11_writePolicy_0  (x1 : Int32) (v : gV) : Prop := (p_X6_placeOf_P 1 x1 v) ∧ (∀ (sr2 : Int32), (f_X6_placeOf_P 1 x1 v) = Sum.inl sr2 → (p_X11_writePolicy_11   x1 sr2 v))
set_option maxHeartbeats 4000000 in
set_option maxRecDepth 100000 in
theorem w_X11_writePolicy_0 {E : gE} {d : Nat} {Q : gO → gS → Prop}   (hd : 8 ≤ d) (x1 : Int32) (v : gV) (hp : p_X11_writePolicy_0   x1 v) (hQ : gqTIV Q (f_X11_writePolicy_0  x1 v)) : gG E m_X11_writePolicy d Q 11 2566 (rS v) 0 [(0, .ref (gX E + 0)), (1, .int x1)] [] := by
  refine g_aload_n 0 dX11_writePolicy_0 rfl ?_
  refine r_get (.ref (gX E + 1)) f_X11_10_X11 rfl (by decide : kd 0 = (0, 8)) (show 0 < 572 by decide) dX11_writePolicy_1 (fun _ => rfl) ?_
  refine r_get (.ref (gX E + (1 + 1))) f_X11_108_X1 rfl (kbz isBk_1) (lt_b0 isBk_1) dX11_writePolicy_4 (fun _ => rfl) ?_
  refine g_iload_n 1 dX11_writePolicy_7 rfl ?_
  obtain ⟨h1, hp⟩ := hp
  refine g_callU (rest := []) s_X11_127_X5 rfl (c_X6_placeOf_P (E := E) (d := d - 1) 1 isBk_1 (by omega) x1 v h1) (kb_1 isBk_1) (lt_b isBk_1 (by decide)) rfl rfl (Nat.le_of_ble_eq_true rfl) (by omega) (by decide) (by decide) dX11_writePolicy_8 (adTI (fun sr2 h3 => ?_)) (axTI (fun e h3 => g_outs rfl rfl (qe (P := gqTIV Q) h3 hQ)))
  have hQ := ql (P := gqTIV Q) h3 hQ
  have hp := hp sr2 h3
  exact w_X11_writePolicy_11  hd    x1 sr2 v hp hQ
def f_X11_writePolicy  (x1 : Int32) (v : gV) : (Int32 ⊕ String) × gV := f_X11_writePolicy_0 x1 v
def p_X11_writePolicy  (x1 : Int32) (v : gV) : Prop := p_X11_writePolicy_0 x1 v
theorem c_X11_writePolicy {E : gE} {d : Nat}   (hd : 8 ≤ d) (x1 : Int32) (v : gV) (hp : p_X11_writePolicy x1 v) : CT E m_X11_writePolicy d 11 2566 [.ref (gX E + 0), .int x1] (rS v) (Cq (gOi (f_X11_writePolicy x1 v).1) (f_X11_writePolicy x1 v).2) := CT.of ok_X11_writePolicy rfl (Nat.le_of_ble_eq_true rfl) (w_X11_writePolicy_0  hd x1 v hp ⟨rfl, rfl⟩)
def f_X11_writeClaim_112   (v : gV) : (Int32 ⊕ String) × gV := (Sum.inl (f_J4_length_8abf5 557 v), v)
def p_X11_writeClaim_112   (v : gV) : Prop := (p_J4_length_8abf5 557 v) ∧ (True)
set_option maxHeartbeats 4000000 in
set_option maxRecDepth 100000 in
theorem w_X11_writeClaim_112 {E : gE} {d : Nat} {Q : gO → gS → Prop}   (hd : 8 ≤ d)  (v : gV) (hp : p_X11_writeClaim_112    v) (hQ : gqTIV Q (f_X11_writeClaim_112   v)) : gG E m_X11_writeClaim d Q 0 0 (rS v) 112 [(0, .ref (gX E + 0))] [.ref (gX E + 557)] := by
  refine g_pop dX11_writeClaim_112 rfl ?_
  refine g_aload_n 0 dX11_writeClaim_113 rfl ?_
  refine r_get (.ref (gX E + 557)) f_X11_36_X11 rfl (by decide : kd 0 = (0, 8)) (show 0 < 572 by decide) dX11_writeClaim_114 (fun _ => rfl) ?_
  obtain ⟨h16, hp⟩ := hp
  refine g_callV (rest := []) s_X11_293_J4 rfl (c_J4_length_8abf5 (E := E) (d := d - 1) 557 (Or.inr rfl) (by omega)  v h16) (by decide : kd 557 = (0, 10)) (show 557 < 572 by decide) rfl rfl (Nat.le_of_ble_eq_true rfl) (by omega) (by decide) (by decide) dX11_writeClaim_117 (adV ?_) axN
  exact g_iret rfl dX11_writeClaim_120 hQ
def f_X11_writeClaim_98  (x2 : Int32) (v : gV) : (Int32 ⊕ String) × gV := f_X11_writeClaim_112   (f_J4_append_bf812 557 (f_X2_ownPartAt 1 x2 v) v)
def p_X11_writeClaim_98  (x2 : Int32) (v : gV) : Prop := (p_X2_ownPartAt 1 x2 v) ∧ ((p_J4_append_bf812 557 (f_X2_ownPartAt 1 x2 v) v) ∧ (p_X11_writeClaim_112    (f_J4_append_bf812 557 (f_X2_ownPartAt 1 x2 v) v)))
set_option maxHeartbeats 4000000 in
set_option maxRecDepth 100000 in
theorem w_X11_writeClaim_98 {E : gE} {d : Nat} {Q : gO → gS → Prop}   (hd : 8 ≤ d) (x2 : Int32) (v : gV) (hp : p_X11_writeClaim_98   x2 v) (hQ : gqTIV Q (f_X11_writeClaim_98  x2 v)) : gG E m_X11_writeClaim d Q 1 256 (rS v) 98 [(0, .ref (gX E + 0)), (2, .int x2)] [.ref (gX E + 557)] := by
  refine g_aload_n 0 dX11_writeClaim_98 rfl ?_
  refine r_get (.ref (gX E + 1)) f_X11_10_X11 rfl (by decide : kd 0 = (0, 8)) (show 0 < 572 by decide) dX11_writeClaim_99 (fun _ => rfl) ?_
  refine r_get (.ref (gX E + (1 + 10))) f_X11_146_X1 rfl (kbz isBk_1) (lt_b0 isBk_1) dX11_writeClaim_102 (fun _ => rfl) ?_
  refine g_iload_n 1 dX11_writeClaim_105 rfl ?_
  obtain ⟨h14, hp⟩ := hp
  refine g_callV (rest := [.ref (gX E + 557)]) s_X11_178_X2 rfl (c_X2_ownPartAt (E := E) (d := d - 1) 1 isBk_1 (by omega) x2 v h14) (kb_10 isBk_1) (lt_b isBk_1 (by decide)) rfl rfl (Nat.le_of_ble_eq_true rfl) (by omega) (by decide) (by decide) dX11_writeClaim_106 (adV ?_) axN
  obtain ⟨h15, hp⟩ := hp
  refine g_callV (rest := []) s_X11_290_J4 rfl (c_J4_append_bf812 (E := E) (d := d - 1) 557 (Or.inr rfl) (by omega) (f_X2_ownPartAt 1 x2 v) v h15) (by decide : kd 557 = (0, 10)) (show 557 < 572 by decide) rfl rfl (Nat.le_of_ble_eq_true rfl) (by omega) (by decide) (by decide) dX11_writeClaim_109 (adV ?_) axN
  refine g_lv (lv' := [(0, .ref (gX E + 0))]) [0] rfl ?_
  exact w_X11_writeClaim_112  hd     (f_J4_append_bf812 557 (f_X2_ownPartAt 1 x2 v) v) hp hQ
def f_X11_writeClaim_88  (x2 : Int32) (v : gV) : (Int32 ⊕ String) × gV := f_X11_writeClaim_98  x2 (f_J4_append_cf468 557 (61 : Int32) v)
def p_X11_writeClaim_88  (x2 : Int32) (v : gV) : Prop := (p_J4_append_cf468 557 (61 : Int32) v) ∧ (p_X11_writeClaim_98   x2 (f_J4_append_cf468 557 (61 : Int32) v))
set_option maxHeartbeats 4000000 in
set_option maxRecDepth 100000 in
theorem w_X11_writeClaim_88 {E : gE} {d : Nat} {Q : gO → gS → Prop}   (hd : 8 ≤ d) (x2 : Int32) (v : gV) (hp : p_X11_writeClaim_88   x2 v) (hQ : gqTIV Q (f_X11_writeClaim_88  x2 v)) : gG E m_X11_writeClaim d Q 2 512 (rS v) 88 [(0, .ref (gX E + 0)), (2, .int x2)] [.ref (gX E + 557)] := by
  refine g_pop dX11_writeClaim_88 rfl ?_
  refine g_aload_n 0 dX11_writeClaim_89 rfl ?_
  refine r_get (.ref (gX E + 557)) f_X11_36_X11 rfl (by decide : kd 0 = (0, 8)) (show 0 < 572 by decide) dX11_writeClaim_90 (fun _ => rfl) ?_
  refine g_bipush dX11_writeClaim_93 (61 : Int32) (by decide) ?_
  obtain ⟨h13, hp⟩ := hp
  refine g_callV (rest := []) s_X11_286_J4 rfl (c_J4_append_cf468 (E := E) (d := d - 1) 557 (Or.inr rfl) (by omega) (61 : Int32) v h13) (by decide : kd 557 = (0, 10)) (show 557 < 572 by decide) rfl rfl (Nat.le_of_ble_eq_true rfl) (by omega) (by decide) (by decide) dX11_writeClaim_95 (adV ?_) axN
  exact w_X11_writeClaim_98  hd    x2 (f_J4_append_cf468 557 (61 : Int32) v) hp hQ
def f_X11_writeClaim_73  (x2 : Int32) (v : gV) : (Int32 ⊕ String) × gV := f_X11_writeClaim_88  x2 (f_J4_append_bf812 557 (v.1 (1 + 15) x2.toNatClampNeg) v)
def p_X11_writeClaim_73  (x2 : Int32) (v : gV) : Prop := (vp_in x2 12) ∧ ((p_J4_append_bf812 557 (v.1 (1 + 15) x2.toNatClampNeg) v) ∧ (p_X11_writeClaim_88   x2 (f_J4_append_bf812 557 (v.1 (1 + 15) x2.toNatClampNeg) v)))
set_option maxHeartbeats 4000000 in
set_option maxRecDepth 100000 in
theorem w_X11_writeClaim_73 {E : gE} {d : Nat} {Q : gO → gS → Prop}   (hd : 8 ≤ d) (x2 : Int32) (v : gV) (hp : p_X11_writeClaim_73   x2 v) (hQ : gqTIV Q (f_X11_writeClaim_73  x2 v)) : gG E m_X11_writeClaim d Q 3 768 (rS v) 73 [(0, .ref (gX E + 0)), (2, .int x2)] [.ref (gX E + 557)] := by
  refine g_aload_n 0 dX11_writeClaim_73 rfl ?_
  refine r_get (.ref (gX E + 1)) f_X11_10_X11 rfl (by decide : kd 0 = (0, 8)) (show 0 < 572 by decide) dX11_writeClaim_74 (fun _ => rfl) ?_
  refine r_get (.ref (gX E + (1 + 10))) f_X11_146_X1 rfl (kbz isBk_1) (lt_b0 isBk_1) dX11_writeClaim_77 (fun _ => rfl) ?_
  refine r_get (.ref (gX E + (1 + 15))) f_X11_164_X2 rfl (kb_10 isBk_1) (lt_b isBk_1 (by decide)) dX11_writeClaim_80 (fun _ => rfl) ?_
  refine g_iload_n 1 dX11_writeClaim_83 rfl ?_
  obtain ⟨h11, hp⟩ := hp
  refine g_iald (kb_15 isBk_1) (lt_b isBk_1 (by decide)) h11 dX11_writeClaim_84 ?_
  obtain ⟨h12, hp⟩ := hp
  refine g_callV (rest := []) s_X11_290_J4 rfl (c_J4_append_bf812 (E := E) (d := d - 1) 557 (Or.inr rfl) (by omega) (v.1 (1 + 15) x2.toNatClampNeg) v h12) (by decide : kd 557 = (0, 10)) (show 557 < 572 by decide) rfl rfl (Nat.le_of_ble_eq_true rfl) (by omega) (by decide) (by decide) dX11_writeClaim_85 (adV ?_) axN
  exact w_X11_writeClaim_88  hd    x2 (f_J4_append_bf812 557 (v.1 (1 + 15) x2.toNatClampNeg) v) hp hQ
def f_X11_writeClaim_63  (x2 : Int32) (v : gV) : (Int32 ⊕ String) × gV := f_X11_writeClaim_73  x2 (f_J4_append_cf468 557 (47 : Int32) v)
def p_X11_writeClaim_63  (x2 : Int32) (v : gV) : Prop := (p_J4_append_cf468 557 (47 : Int32) v) ∧ (p_X11_writeClaim_73   x2 (f_J4_append_cf468 557 (47 : Int32) v))
set_option maxHeartbeats 4000000 in
set_option maxRecDepth 100000 in
theorem w_X11_writeClaim_63 {E : gE} {d : Nat} {Q : gO → gS → Prop}   (hd : 8 ≤ d) (x2 : Int32) (v : gV) (hp : p_X11_writeClaim_63   x2 v) (hQ : gqTIV Q (f_X11_writeClaim_63  x2 v)) : gG E m_X11_writeClaim d Q 4 1024 (rS v) 63 [(0, .ref (gX E + 0)), (2, .int x2)] [.ref (gX E + 557)] := by
  refine g_pop dX11_writeClaim_63 rfl ?_
  refine g_aload_n 0 dX11_writeClaim_64 rfl ?_
  refine r_get (.ref (gX E + 557)) f_X11_36_X11 rfl (by decide : kd 0 = (0, 8)) (show 0 < 572 by decide) dX11_writeClaim_65 (fun _ => rfl) ?_
  refine g_bipush dX11_writeClaim_68 (47 : Int32) (by decide) ?_
  obtain ⟨h10, hp⟩ := hp
  refine g_callV (rest := []) s_X11_286_J4 rfl (c_J4_append_cf468 (E := E) (d := d - 1) 557 (Or.inr rfl) (by omega) (47 : Int32) v h10) (by decide : kd 557 = (0, 10)) (show 557 < 572 by decide) rfl rfl (Nat.le_of_ble_eq_true rfl) (by omega) (by decide) (by decide) dX11_writeClaim_70 (adV ?_) axN
  exact w_X11_writeClaim_73  hd    x2 (f_J4_append_cf468 557 (47 : Int32) v) hp hQ
def f_X11_writeClaim_43  (x2 : Int32) (v : gV) : (Int32 ⊕ String) × gV := f_X11_writeClaim_63  x2 (f_J4_append_bf812 557 (v.1 (1 + 14) x2.toNatClampNeg) v)
def p_X11_writeClaim_43  (x2 : Int32) (v : gV) : Prop := (vp_in x2 12) ∧ ((p_J4_append_bf812 557 (v.1 (1 + 14) x2.toNatClampNeg) v) ∧ (p_X11_writeClaim_63   x2 (f_J4_append_bf812 557 (v.1 (1 + 14) x2.toNatClampNeg) v)))
set_option maxHeartbeats 4000000 in
set_option maxRecDepth 100000 in
theorem w_X11_writeClaim_43 {E : gE} {d : Nat} {Q : gO → gS → Prop}   (hd : 8 ≤ d) (x2 : Int32) (v : gV) (hp : p_X11_writeClaim_43   x2 v) (hQ : gqTIV Q (f_X11_writeClaim_43  x2 v)) : gG E m_X11_writeClaim d Q 5 1280 (rS v) 43 [(0, .ref (gX E + 0)), (2, .int x2)] [.ref (gX E + 557)] := by
  refine g_pop dX11_writeClaim_43 rfl ?_
  refine g_aload_n 0 dX11_writeClaim_44 rfl ?_
  refine r_get (.ref (gX E + 557)) f_X11_36_X11 rfl (by decide : kd 0 = (0, 8)) (show 0 < 572 by decide) dX11_writeClaim_45 (fun _ => rfl) ?_
  refine g_aload_n 0 dX11_writeClaim_48 rfl ?_
  refine r_get (.ref (gX E + 1)) f_X11_10_X11 rfl (by decide : kd 0 = (0, 8)) (show 0 < 572 by decide) dX11_writeClaim_49 (fun _ => rfl) ?_
  refine r_get (.ref (gX E + (1 + 10))) f_X11_146_X1 rfl (kbz isBk_1) (lt_b0 isBk_1) dX11_writeClaim_52 (fun _ => rfl) ?_
  refine r_get (.ref (gX E + (1 + 14))) f_X11_161_X2 rfl (kb_10 isBk_1) (lt_b isBk_1 (by decide)) dX11_writeClaim_55 (fun _ => rfl) ?_
  refine g_iload_n 1 dX11_writeClaim_58 rfl ?_
  obtain ⟨h8, hp⟩ := hp
  refine g_iald (kb_14 isBk_1) (lt_b isBk_1 (by decide)) h8 dX11_writeClaim_59 ?_
  obtain ⟨h9, hp⟩ := hp
  refine g_callV (rest := []) s_X11_290_J4 rfl (c_J4_append_bf812 (E := E) (d := d - 1) 557 (Or.inr rfl) (by omega) (v.1 (1 + 14) x2.toNatClampNeg) v h9) (by decide : kd 557 = (0, 10)) (show 557 < 572 by decide) rfl rfl (Nat.le_of_ble_eq_true rfl) (by omega) (by decide) (by decide) dX11_writeClaim_60 (adV ?_) axN
  exact w_X11_writeClaim_63  hd    x2 (f_J4_append_bf812 557 (v.1 (1 + 14) x2.toNatClampNeg) v) hp hQ
def f_X11_writeClaim_28  (x2 : Int32) (v : gV) : (Int32 ⊕ String) × gV := f_X11_writeClaim_43  x2 (f_J4_append_cf468 557 (v.1 (1 + 13) x2.toNatClampNeg) v)
def p_X11_writeClaim_28  (x2 : Int32) (v : gV) : Prop := (vp_in x2 12) ∧ ((p_J4_append_cf468 557 (v.1 (1 + 13) x2.toNatClampNeg) v) ∧ (p_X11_writeClaim_43   x2 (f_J4_append_cf468 557 (v.1 (1 + 13) x2.toNatClampNeg) v)))
set_option maxHeartbeats 4000000 in
set_option maxRecDepth 100000 in
theorem w_X11_writeClaim_28 {E : gE} {d : Nat} {Q : gO → gS → Prop}   (hd : 8 ≤ d) (x2 : Int32) (v : gV) (hp : p_X11_writeClaim_28   x2 v) (hQ : gqTIV Q (f_X11_writeClaim_28  x2 v)) : gG E m_X11_writeClaim d Q 6 1536 (rS v) 28 [(0, .ref (gX E + 0)), (2, .int x2)] [.ref (gX E + 557)] := by
  refine g_aload_n 0 dX11_writeClaim_28 rfl ?_
  refine r_get (.ref (gX E + 1)) f_X11_10_X11 rfl (by decide : kd 0 = (0, 8)) (show 0 < 572 by decide) dX11_writeClaim_29 (fun _ => rfl) ?_
  refine r_get (.ref (gX E + (1 + 10))) f_X11_146_X1 rfl (kbz isBk_1) (lt_b0 isBk_1) dX11_writeClaim_32 (fun _ => rfl) ?_
  refine r_get (.ref (gX E + (1 + 13))) f_X11_157_X2 rfl (kb_10 isBk_1) (lt_b isBk_1 (by decide)) dX11_writeClaim_35 (fun _ => rfl) ?_
  refine g_iload_n 1 dX11_writeClaim_38 rfl ?_
  obtain ⟨h6, hp⟩ := hp
  refine g_cald (kb_13 isBk_1) (lt_b isBk_1 (by decide)) h6 dX11_writeClaim_39 ?_
  obtain ⟨h7, hp⟩ := hp
  refine g_callV (rest := []) s_X11_286_J4 rfl (c_J4_append_cf468 (E := E) (d := d - 1) 557 (Or.inr rfl) (by omega) (v.1 (1 + 13) x2.toNatClampNeg) v h7) (by decide : kd 557 = (0, 10)) (show 557 < 572 by decide) rfl rfl (Nat.le_of_ble_eq_true rfl) (by omega) (by decide) (by decide) dX11_writeClaim_40 (adV ?_) axN
  exact w_X11_writeClaim_43  hd    x2 (f_J4_append_cf468 557 (v.1 (1 + 13) x2.toNatClampNeg) v) hp hQ
def f_X11_writeClaim_20  (x1 : Int32) (x2 : Int32) (v : gV) : (Int32 ⊕ String) × gV := f_X11_writeClaim_28  x2 (f_J4_append_bf812 557 x1 v)
def p_X11_writeClaim_20  (x1 : Int32) (x2 : Int32) (v : gV) : Prop := (p_J4_append_bf812 557 x1 v) ∧ (p_X11_writeClaim_28   x2 (f_J4_append_bf812 557 x1 v))
set_option maxHeartbeats 4000000 in
set_option maxRecDepth 100000 in
theorem w_X11_writeClaim_20 {E : gE} {d : Nat} {Q : gO → gS → Prop}   (hd : 8 ≤ d) (x1 : Int32) (x2 : Int32) (v : gV) (hp : p_X11_writeClaim_20   x1 x2 v) (hQ : gqTIV Q (f_X11_writeClaim_20  x1 x2 v)) : gG E m_X11_writeClaim d Q 7 1792 (rS v) 20 [(0, .ref (gX E + 0)), (1, .int x1), (2, .int x2)] [] := by
  refine g_aload_n 0 dX11_writeClaim_20 rfl ?_
  refine r_get (.ref (gX E + 557)) f_X11_36_X11 rfl (by decide : kd 0 = (0, 8)) (show 0 < 572 by decide) dX11_writeClaim_21 (fun _ => rfl) ?_
  refine g_iload_n 1 dX11_writeClaim_24 rfl ?_
  obtain ⟨h5, hp⟩ := hp
  refine g_callV (rest := []) s_X11_290_J4 rfl (c_J4_append_bf812 (E := E) (d := d - 1) 557 (Or.inr rfl) (by omega) x1 v h5) (by decide : kd 557 = (0, 10)) (show 557 < 572 by decide) rfl rfl (Nat.le_of_ble_eq_true rfl) (by omega) (by decide) (by decide) dX11_writeClaim_25 (adV ?_) axN
  refine g_lv (lv' := [(0, .ref (gX E + 0)), (2, .int x2)]) [0, 2] rfl ?_
  exact w_X11_writeClaim_28  hd    x2 (f_J4_append_bf812 557 x1 v) hp hQ
def f_X11_writeClaim_11  (x1 : Int32) (s0 : Int32) (v : gV) : (Int32 ⊕ String) × gV := f_X11_writeClaim_20  x1 s0 (f_J4_setLength_d00df 557 (0 : Int32) v)
def p_X11_writeClaim_11  (x1 : Int32) (s0 : Int32) (v : gV) : Prop := (p_J4_setLength_d00df 557 (0 : Int32) v) ∧ (p_X11_writeClaim_20   x1 s0 (f_J4_setLength_d00df 557 (0 : Int32) v))
set_option maxHeartbeats 4000000 in
set_option maxRecDepth 100000 in
theorem w_X11_writeClaim_11 {E : gE} {d : Nat} {Q : gO → gS → Prop}   (hd : 8 ≤ d) (x1 : Int32) (s0 : Int32) (v : gV) (hp : p_X11_writeClaim_11   x1 s0 v) (hQ : gqTIV Q (f_X11_writeClaim_11  x1 s0 v)) : gG E m_X11_writeClaim d Q 8 2048 (rS v) 11 [(0, .ref (gX E + 0)), (1, .int x1)] [.int s0] := by
  refine g_istore_n [(2, .int s0), (0, .ref (gX E + 0)), (1, .int x1)] dX11_writeClaim_11 rfl (by decide) rfl ?_
  refine g_aload_n 1 dX11_writeClaim_12 rfl ?_
  refine r_get (.ref (gX E + 557)) f_X11_36_X11 rfl (by decide : kd 0 = (0, 8)) (show 0 < 572 by decide) dX11_writeClaim_13 (fun _ => rfl) ?_
  refine g_iconst dX11_writeClaim_16 (0 : Int32) (by decide) ?_
  obtain ⟨h4, hp⟩ := hp
  refine g_callV (rest := []) s_X11_282_J4 rfl (c_J4_setLength_d00df (E := E) (d := d - 1) 557 (Or.inr rfl) (by omega) (0 : Int32) v h4) (by decide : kd 557 = (0, 10)) (show 557 < 572 by decide) rfl rfl (Nat.le_of_ble_eq_true rfl) (by omega) (by decide) (by decide) dX11_writeClaim_17 (adN ?_) axN
  refine g_lv (lv' := [(0, .ref (gX E + 0)), (1, .int x1), (2, .int s0)]) [1, 2, 0] rfl ?_
  exact w_X11_writeClaim_20  hd    x1 s0 (f_J4_setLength_d00df 557 (0 : Int32) v) hp hQ
def f_X11_writeClaim_0  (x1 : Int32) (v : gV) : (Int32 ⊕ String) × gV := Sum.elim (fun (sr2 : Int32) => f_X11_writeClaim_11  x1 sr2 v) (fun (e : String) => (Sum.inr e, v)) (f_X6_placeOf_C 1 x1 v)
def p_X11_writeClaim_0  (x1 : Int32) (v : gV) : Prop := (p_X6_placeOf_C 1 x1 v) ∧ (∀ (sr2 : Int32), (f_X6_placeOf_C 1 x1 v) = Sum.inl sr2 → (p_X11_writeClaim_11   x1 sr2 v))
set_option maxHeartbeats 4000000 in
set_option maxRecDepth 100000 in
theorem w_X11_writeClaim_0 {E : gE} {d : Nat} {Q : gO → gS → Prop}   (hd : 8 ≤ d) (x1 : Int32) (v : gV) (hp : p_X11_writeClaim_0   x1 v) (hQ : gqTIV Q (f_X11_writeClaim_0  x1 v)) : gG E m_X11_writeClaim d Q 9 2054 (rS v) 0 [(0, .ref (gX E + 0)), (1, .int x1)] [] := by
  refine g_aload_n 0 dX11_writeClaim_0 rfl ?_
  refine r_get (.ref (gX E + 1)) f_X11_10_X11 rfl (by decide : kd 0 = (0, 8)) (show 0 < 572 by decide) dX11_writeClaim_1 (fun _ => rfl) ?_
  refine r_get (.ref (gX E + (1 + 10))) f_X11_146_X1 rfl (kbz isBk_1) (lt_b0 isBk_1) dX11_writeClaim_4 (fun _ => rfl) ?_
  refine g_iload_n 1 dX11_writeClaim_7 rfl ?_
  obtain ⟨h1, hp⟩ := hp
  refine g_callU (rest := []) s_X11_156_X2 rfl (c_X6_placeOf_C (E := E) (d := d - 1) 1 isBk_1 (by omega) x1 v h1) (kb_10 isBk_1) (lt_b isBk_1 (by decide)) rfl rfl (Nat.le_of_ble_eq_true rfl) (by omega) (by decide) (by decide) dX11_writeClaim_8 (adTI (fun sr2 h3 => ?_)) (axTI (fun e h3 => g_outs rfl rfl (qe (P := gqTIV Q) h3 hQ)))
  have hQ := ql (P := gqTIV Q) h3 hQ
  have hp := hp sr2 h3
  exact w_X11_writeClaim_11  hd    x1 sr2 v hp hQ
def f_X11_writeClaim  (x1 : Int32) (v : gV) : (Int32 ⊕ String) × gV := f_X11_writeClaim_0 x1 v
def p_X11_writeClaim  (x1 : Int32) (v : gV) : Prop := p_X11_writeClaim_0 x1 v
theorem c_X11_writeClaim {E : gE} {d : Nat}   (hd : 8 ≤ d) (x1 : Int32) (v : gV) (hp : p_X11_writeClaim x1 v) : CT E m_X11_writeClaim d 9 2054 [.ref (gX E + 0), .int x1] (rS v) (Cq (gOi (f_X11_writeClaim x1 v).1) (f_X11_writeClaim x1 v).2) := CT.of ok_X11_writeClaim rfl (Nat.le_of_ble_eq_true rfl) (w_X11_writeClaim_0  hd x1 v hp ⟨rfl, rfl⟩)
def f_X11_outputAt_15  (s0 : Int32) (v : gV) : Int32 ⊕ String := Sum.inl (f_J4_charAt_5068e 557 s0 v)
def p_X11_outputAt_15  (s0 : Int32) (v : gV) : Prop := (p_J4_charAt_5068e 557 s0 v) ∧ ((narrow .char (.int (f_J4_charAt_5068e 557 s0 v)) = .int (f_J4_charAt_5068e 557 s0 v)) ∧ (True))
set_option maxHeartbeats 4000000 in
set_option maxRecDepth 100000 in
theorem w_X11_outputAt_15 {E : gE} {d : Nat} {Q : gO → gS → Prop}   (hd : 8 ≤ d) (s0 : Int32) (v : gV) (hp : p_X11_outputAt_15   s0 v) (hQ : gqTI Q v (f_X11_outputAt_15  s0 v)) : gG E m_X11_outputAt d Q 0 0 (rS v) 15 [] [.int s0, .ref (gX E + 557)] := by
  obtain ⟨h5, hp⟩ := hp
  refine g_callV (rest := []) s_X11_296_J4 rfl (c_J4_charAt_5068e (E := E) (d := d - 1) 557 (Or.inr rfl) (by omega) s0 v h5) (by decide : kd 557 = (0, 10)) (show 557 < 572 by decide) rfl rfl (Nat.le_of_ble_eq_true rfl) (by omega) (by decide) (by decide) dX11_outputAt_15 (adV ?_) axN
  obtain ⟨h6, hp⟩ := hp
  exact g_zret rfl h6 dX11_outputAt_18 hQ
def f_X11_outputAt_0  (x1 : Int32) (v : gV) : Int32 ⊕ String := Sum.elim (fun (sr3 : Int32) => f_X11_outputAt_15  sr3 v) (fun (e : String) => Sum.inr e) (f_X11_checkedIndex x1 (f_J4_length_8abf5 557 v) v)
def p_X11_outputAt_0  (x1 : Int32) (v : gV) : Prop := (p_J4_length_8abf5 557 v) ∧ ((p_X11_checkedIndex x1 (f_J4_length_8abf5 557 v) v) ∧ (∀ (sr3 : Int32), (f_X11_checkedIndex x1 (f_J4_length_8abf5 557 v) v) = Sum.inl sr3 → (p_X11_outputAt_15   sr3 v)))
set_option maxHeartbeats 4000000 in
set_option maxRecDepth 100000 in
theorem w_X11_outputAt_0 {E : gE} {d : Nat} {Q : gO → gS → Prop}   (hd : 8 ≤ d) (x1 : Int32) (v : gV) (hp : p_X11_outputAt_0   x1 v) (hQ : gqTI Q v (f_X11_outputAt_0  x1 v)) : gG E m_X11_outputAt d Q 1 6 (rS v) 0 [(0, .ref (gX E + 0)), (1, .int x1)] [] := by
  refine g_aload_n 0 dX11_outputAt_0 rfl ?_
  refine r_get (.ref (gX E + 557)) f_X11_36_X11 rfl (by decide : kd 0 = (0, 8)) (show 0 < 572 by decide) dX11_outputAt_1 (fun _ => rfl) ?_
  refine g_iload_n 1 dX11_outputAt_4 rfl ?_
  refine g_aload_n 0 dX11_outputAt_5 rfl ?_
  refine r_get (.ref (gX E + 557)) f_X11_36_X11 rfl (by decide : kd 0 = (0, 8)) (show 0 < 572 by decide) dX11_outputAt_6 (fun _ => rfl) ?_
  obtain ⟨h1, hp⟩ := hp
  refine g_callV (rest := [.int x1, .ref (gX E + 557)]) s_X11_293_J4 rfl (c_J4_length_8abf5 (E := E) (d := d - 1) 557 (Or.inr rfl) (by omega)  v h1) (by decide : kd 557 = (0, 10)) (show 557 < 572 by decide) rfl rfl (Nat.le_of_ble_eq_true rfl) (by omega) (by decide) (by decide) dX11_outputAt_9 (adV ?_) axN
  obtain ⟨h2, hp⟩ := hp
  refine g_callS (rest := [.ref (gX E + 557)]) s_X11_121 rfl (c_X11_checkedIndex (E := E) (d := d - 1)   (by omega) x1 (f_J4_length_8abf5 557 v) v h2) rfl rfl (Nat.le_of_ble_eq_true rfl) (by omega) (by decide) (by decide) dX11_outputAt_12 (adTI (fun sr3 h4 => ?_)) (axTI (fun e h4 => g_outs rfl rfl (qe (P := gqTI Q v) h4 hQ)))
  have hQ := ql (P := gqTI Q v) h4 hQ
  have hp := hp sr3 h4
  refine g_lv (lv' := []) [] rfl ?_
  exact w_X11_outputAt_15  hd    sr3 v hp hQ
def f_X11_outputAt  (x1 : Int32) (v : gV) : Int32 ⊕ String := f_X11_outputAt_0 x1 v
def p_X11_outputAt  (x1 : Int32) (v : gV) : Prop := p_X11_outputAt_0 x1 v
theorem c_X11_outputAt {E : gE} {d : Nat}   (hd : 8 ≤ d) (x1 : Int32) (v : gV) (hp : p_X11_outputAt x1 v) : CT E m_X11_outputAt d 1 6 [.ref (gX E + 0), .int x1] (rS v) (Cq (gOi (f_X11_outputAt x1 v)) v) := CT.of ok_X11_outputAt rfl (Nat.le_of_ble_eq_true rfl) (w_X11_outputAt_0  hd x1 v hp ⟨rfl, rfl⟩)
def f_X11_type_16  (s0 : Int32) (v : gV) : (Int32 ⊕ String) × gV := (Sum.inl s0, v)
def p_X11_type_16  (s0 : Int32) (v : gV) : Prop := True
set_option maxHeartbeats 4000000 in
set_option maxRecDepth 100000 in
theorem w_X11_type_16 {E : gE} {d : Nat} {Q : gO → gS → Prop}   (hd : 8 ≤ d) (s0 : Int32) (v : gV) (hp : p_X11_type_16   s0 v) (hQ : gqTIV Q (f_X11_type_16  s0 v)) : gG E m_X11_type d Q 0 0 (rS v) 16 [] [.int s0] := by
  exact g_iret rfl dX11_type_16 hQ
def f_X11_type_12  (s0 : Int32) (v : gV) : (Int32 ⊕ String) × gV := Sum.elim (fun (sr5 : Int32) => f_X11_type_16  sr5 (f_X7_append ((s0.toUInt32 % 65536).toInt32) v).2) (fun (e : String) => (Sum.inr e, (f_X7_append ((s0.toUInt32 % 65536).toInt32) v).2)) (f_X7_append ((s0.toUInt32 % 65536).toInt32) v).1
def p_X11_type_12  (s0 : Int32) (v : gV) : Prop := (p_X7_append ((s0.toUInt32 % 65536).toInt32) v) ∧ (∀ (sr5 : Int32), (f_X7_append ((s0.toUInt32 % 65536).toInt32) v).1 = Sum.inl sr5 → (p_X11_type_16   sr5 (f_X7_append ((s0.toUInt32 % 65536).toInt32) v).2))
set_option maxHeartbeats 4000000 in
set_option maxRecDepth 100000 in
theorem w_X11_type_12 {E : gE} {d : Nat} {Q : gO → gS → Prop}   (hd : 8 ≤ d) (s0 : Int32) (v : gV) (hp : p_X11_type_12   s0 v) (hQ : gqTIV Q (f_X11_type_12  s0 v)) : gG E m_X11_type d Q 1 256 (rS v) 12 [] [.int s0, .ref (gX E + 553)] := by
  refine g_i2c dX11_type_12 ?_
  obtain ⟨h4, hp⟩ := hp
  refine g_callV (rest := []) s_X11_300_X7 rfl (c_X7_append (E := E) (d := d - 1)   (by omega) ((s0.toUInt32 % 65536).toInt32) v h4) (by decide : kd 553 = (0, 5)) (show 553 < 572 by decide) rfl rfl (Nat.le_of_ble_eq_true rfl) (by omega) (by decide) (by decide) dX11_type_13 (adTI (fun sr5 h6 => ?_)) (axTI (fun e h6 => g_outs rfl rfl (qe (P := gqTIV Q) h6 hQ)))
  have hQ := ql (P := gqTIV Q) h6 hQ
  have hp := hp sr5 h6
  exact w_X11_type_16  hd    sr5 (f_X7_append ((s0.toUInt32 % 65536).toInt32) v).2 hp hQ
def f_X11_type_0  (x1 : Int32) (v : gV) : (Int32 ⊕ String) × gV := Sum.elim (fun (sr2 : Int32) => f_X11_type_12  sr2 v) (fun (e : String) => (Sum.inr e, v)) (f_X11_checkedNumber x1 (32 : Int32) (126 : Int32) v)
def p_X11_type_0  (x1 : Int32) (v : gV) : Prop := (p_X11_checkedNumber x1 (32 : Int32) (126 : Int32) v) ∧ (∀ (sr2 : Int32), (f_X11_checkedNumber x1 (32 : Int32) (126 : Int32) v) = Sum.inl sr2 → (p_X11_type_12   sr2 v))
set_option maxHeartbeats 4000000 in
set_option maxRecDepth 100000 in
theorem w_X11_type_0 {E : gE} {d : Nat} {Q : gO → gS → Prop}   (hd : 8 ≤ d) (x1 : Int32) (v : gV) (hp : p_X11_type_0   x1 v) (hQ : gqTIV Q (f_X11_type_0  x1 v)) : gG E m_X11_type d Q 2 262 (rS v) 0 [(0, .ref (gX E + 0)), (1, .int x1)] [] := by
  refine g_aload_n 0 dX11_type_0 rfl ?_
  refine r_get (.ref (gX E + 553)) f_X11_29_X11 rfl (by decide : kd 0 = (0, 8)) (show 0 < 572 by decide) dX11_type_1 (fun _ => rfl) ?_
  refine g_iload_n 1 dX11_type_4 rfl ?_
  refine g_bipush dX11_type_5 (32 : Int32) (by decide) ?_
  refine g_bipush dX11_type_7 (126 : Int32) (by decide) ?_
  obtain ⟨h1, hp⟩ := hp
  refine g_callS (rest := [.ref (gX E + 553)]) s_X11_190 rfl (c_X11_checkedNumber (E := E) (d := d - 1)   (by omega) x1 (32 : Int32) (126 : Int32) v h1) rfl rfl (Nat.le_of_ble_eq_true rfl) (by omega) (by decide) (by decide) dX11_type_9 (adTI (fun sr2 h3 => ?_)) (axTI (fun e h3 => g_outs rfl rfl (qe (P := gqTIV Q) h3 hQ)))
  have hQ := ql (P := gqTIV Q) h3 hQ
  have hp := hp sr2 h3
  refine g_lv (lv' := []) [] rfl ?_
  exact w_X11_type_12  hd    sr2 v hp hQ
def f_X11_type  (x1 : Int32) (v : gV) : (Int32 ⊕ String) × gV := f_X11_type_0 x1 v
def p_X11_type  (x1 : Int32) (v : gV) : Prop := p_X11_type_0 x1 v
theorem c_X11_type {E : gE} {d : Nat}   (hd : 8 ≤ d) (x1 : Int32) (v : gV) (hp : p_X11_type x1 v) : CT E m_X11_type d 2 262 [.ref (gX E + 0), .int x1] (rS v) (Cq (gOi (f_X11_type x1 v).1) (f_X11_type x1 v).2) := CT.of ok_X11_type rfl (Nat.le_of_ble_eq_true rfl) (w_X11_type_0  hd x1 v hp ⟨rfl, rfl⟩)
def f_L_writePolicy_9   (v : gV) : Int32 × gV := ((0 : Int32), v)
def p_L_writePolicy_9   (v : gV) : Prop := True
set_option maxHeartbeats 4000000 in
set_option maxRecDepth 100000 in
theorem w_L_writePolicy_9 {E : gE} {d : Nat} {Q : gO → gS → Prop}   (hd : 9 ≤ d)  (v : gV) (hp : p_L_writePolicy_9    v) (hQ : gqIV Q (f_L_writePolicy_9   v)) : gG E m_L_writePolicy d Q 0 0 (rS v) 9 [] [] := by
  refine g_goto 15 dL_writePolicy_9 (by decide) ?_
  refine g_iconst dL_writePolicy_15 (0 : Int32) (by decide) ?_
  exact g_iret rfl dL_writePolicy_16 hQ
def f_L_writePolicy_7  (s0 : Int32) (s1 : Int32) (v : gV) : Int32 × gV := f_L_writePolicy_9   (vL v 570 s1.toNatClampNeg s0.toInt64)
def p_L_writePolicy_7  (s0 : Int32) (s1 : Int32) (v : gV) : Prop := (vp_in s1 1) ∧ (p_L_writePolicy_9    (vL v 570 s1.toNatClampNeg s0.toInt64))
set_option maxHeartbeats 4000000 in
set_option maxRecDepth 100000 in
theorem w_L_writePolicy_7 {E : gE} {d : Nat} {Q : gO → gS → Prop}   (hd : 9 ≤ d) (s0 : Int32) (s1 : Int32) (v : gV) (hp : p_L_writePolicy_7   s0 s1 v) (hQ : gqIV Q (f_L_writePolicy_7  s0 s1 v)) : gG E m_L_writePolicy d Q 0 0 (rS v) 7 [] [.int s0, .int s1, .ref (gX E + 570)] := by
  refine g_i2l dL_writePolicy_7 ?_
  obtain ⟨h4, hp⟩ := hp
  refine r_last (by decide : kd 570 = (3, 1)) (show 570 < 572 by decide) h4 dL_writePolicy_8 ?_
  exact w_L_writePolicy_9  hd     (vL v 570 s1.toNatClampNeg s0.toInt64) hp hQ
def f_L_writePolicy_13   (v : gV) : Int32 × gV := ((1 : Int32), v)
def p_L_writePolicy_13   (v : gV) : Prop := True
set_option maxHeartbeats 4000000 in
set_option maxRecDepth 100000 in
theorem w_L_writePolicy_13 {E : gE} {d : Nat} {Q : gO → gS → Prop}   (hd : 9 ≤ d)  (v : gV) (hp : p_L_writePolicy_13    v) (hQ : gqIV Q (f_L_writePolicy_13   v)) : gG E m_L_writePolicy d Q 0 0 (rS v) 13 [] [] := by
  refine g_iconst dL_writePolicy_13 (1 : Int32) (by decide) ?_
  exact g_iret rfl dL_writePolicy_14 hQ
def f_L_writePolicy_0  (x1 : Int32) (v : gV) : Int32 × gV := Sum.elim (fun (sr2 : Int32) => f_L_writePolicy_7  sr2 (0 : Int32) (f_X11_writePolicy x1 v).2) (fun (e : String) => if e = "java/util/NoSuchElementException" then (f_L_writePolicy_13   (f_X11_writePolicy x1 v).2) else ((0, v))) (f_X11_writePolicy x1 v).1
def p_L_writePolicy_0  (x1 : Int32) (v : gV) : Prop := (p_X11_writePolicy x1 v) ∧ ((∀ (sr2 : Int32), (f_X11_writePolicy x1 v).1 = Sum.inl sr2 → (p_L_writePolicy_7   sr2 (0 : Int32) (f_X11_writePolicy x1 v).2)) ∧ (∀ (e : String), (f_X11_writePolicy x1 v).1 = Sum.inr e → (((e = "java/util/NoSuchElementException") → (p_L_writePolicy_13    (f_X11_writePolicy x1 v).2)) ∧ (¬ (e = "java/util/NoSuchElementException") → (False)))))
set_option maxHeartbeats 4000000 in
set_option maxRecDepth 100000 in
theorem w_L_writePolicy_0 {E : gE} {d : Nat} {Q : gO → gS → Prop}   (hd : 9 ≤ d) (x1 : Int32) (v : gV) (hp : p_L_writePolicy_0   x1 v) (hQ : gqIV Q (f_L_writePolicy_0  x1 v)) : gG E m_L_writePolicy d Q 11 2566 (rS v) 0 [(0, .ref (gX E + 0)), (1, .int x1), (2, .ref (gX E + 570))] [] := by
  refine g_aload_n 2 dL_writePolicy_0 rfl ?_
  refine g_iconst dL_writePolicy_1 (0 : Int32) (by decide) ?_
  refine g_aload_n 0 dL_writePolicy_2 rfl ?_
  refine g_iload_n 1 dL_writePolicy_3 rfl ?_
  obtain ⟨h1, hp⟩ := hp
  refine g_callV (rest := [.int ((0 : Int32)), .ref (gX E + 570)]) s_L_154_X11 rfl (c_X11_writePolicy (E := E) (d := d - 1)   (by omega) x1 v h1) (by decide : kd 0 = (0, 8)) (show 0 < 572 by decide) rfl rfl (Nat.le_of_ble_eq_true rfl) (by omega) (by decide) (by decide) dL_writePolicy_4 (adTI (fun sr2 h3 => ?_)) (axTI (fun e h3 => ?_))
  · have hQ := ql (P := gqIV Q) h3 hQ
    have hp := hp.1 sr2 h3
    refine g_lv (lv' := []) [] rfl ?_
    exact w_L_writePolicy_7  hd    sr2 (0 : Int32) (f_X11_writePolicy x1 v).2 hp hQ
  · have hQ := qe (P := gqIV Q) h3 hQ
    have hp := hp.2 e h3
    by_cases h5 : e = "java/util/NoSuchElementException"
    · subst h5
      have hQ := qp (P := gqIV Q) rfl hQ
      have hp := hp.1 rfl
      refine g_catch2 [] (0, 9, 12, 21) [] rfl (fun z hz => absurd hz List.not_mem_nil) (by decide) (by decide) w_860 w_880 (fun q => ?_)
      refine g_astore_n [(3, .ref q), (0, .ref (gX E + 0)), (1, .int x1), (2, .ref (gX E + 570))] dL_writePolicy_12 rfl (by decide) rfl ?_
      refine g_lv (lv' := []) [] rfl ?_
      exact w_L_writePolicy_13  hd     (f_X11_writePolicy x1 v).2 hp hQ
    have hQ := qn (P := gqIV Q) h5 hQ
    have hp := hp.2 h5
    exact hp.elim
def f_L_writePolicy  (x1 : Int32) (v : gV) : Int32 × gV := f_L_writePolicy_0 x1 v
def p_L_writePolicy  (x1 : Int32) (v : gV) : Prop := p_L_writePolicy_0 x1 v
theorem c_L_writePolicy {E : gE} {d : Nat}   (hd : 9 ≤ d) (x1 : Int32) (v : gV) (hp : p_L_writePolicy x1 v) : CT E m_L_writePolicy d 11 2566 [.ref (gX E + 0), .int x1, .ref (gX E + 570)] (rS v) (Cq (.inl (some (.int ((f_L_writePolicy x1 v).1)))) (f_L_writePolicy x1 v).2) := CT.ofH ok_L_writePolicy rfl (Nat.le_of_ble_eq_true rfl) (w_L_writePolicy_0  hd x1 v hp ⟨rfl, rfl⟩)
def f_L_writeClaim_9   (v : gV) : Int32 × gV := ((0 : Int32), v)
def p_L_writeClaim_9   (v : gV) : Prop := True
set_option maxHeartbeats 4000000 in
set_option maxRecDepth 100000 in
theorem w_L_writeClaim_9 {E : gE} {d : Nat} {Q : gO → gS → Prop}   (hd : 9 ≤ d)  (v : gV) (hp : p_L_writeClaim_9    v) (hQ : gqIV Q (f_L_writeClaim_9   v)) : gG E m_L_writeClaim d Q 0 0 (rS v) 9 [] [] := by
  refine g_goto 15 dL_writeClaim_9 (by decide) ?_
  refine g_iconst dL_writeClaim_15 (0 : Int32) (by decide) ?_
  exact g_iret rfl dL_writeClaim_16 hQ
def f_L_writeClaim_7  (s0 : Int32) (s1 : Int32) (v : gV) : Int32 × gV := f_L_writeClaim_9   (vL v 570 s1.toNatClampNeg s0.toInt64)
def p_L_writeClaim_7  (s0 : Int32) (s1 : Int32) (v : gV) : Prop := (vp_in s1 1) ∧ (p_L_writeClaim_9    (vL v 570 s1.toNatClampNeg s0.toInt64))
set_option maxHeartbeats 4000000 in
set_option maxRecDepth 100000 in
theorem w_L_writeClaim_7 {E : gE} {d : Nat} {Q : gO → gS → Prop}   (hd : 9 ≤ d) (s0 : Int32) (s1 : Int32) (v : gV) (hp : p_L_writeClaim_7   s0 s1 v) (hQ : gqIV Q (f_L_writeClaim_7  s0 s1 v)) : gG E m_L_writeClaim d Q 0 0 (rS v) 7 [] [.int s0, .int s1, .ref (gX E + 570)] := by
  refine g_i2l dL_writeClaim_7 ?_
  obtain ⟨h4, hp⟩ := hp
  refine r_last (by decide : kd 570 = (3, 1)) (show 570 < 572 by decide) h4 dL_writeClaim_8 ?_
  exact w_L_writeClaim_9  hd     (vL v 570 s1.toNatClampNeg s0.toInt64) hp hQ
def f_L_writeClaim_13   (v : gV) : Int32 × gV := ((1 : Int32), v)
def p_L_writeClaim_13   (v : gV) : Prop := True
set_option maxHeartbeats 4000000 in
set_option maxRecDepth 100000 in
theorem w_L_writeClaim_13 {E : gE} {d : Nat} {Q : gO → gS → Prop}   (hd : 9 ≤ d)  (v : gV) (hp : p_L_writeClaim_13    v) (hQ : gqIV Q (f_L_writeClaim_13   v)) : gG E m_L_writeClaim d Q 0 0 (rS v) 13 [] [] := by
  refine g_iconst dL_writeClaim_13 (1 : Int32) (by decide) ?_
  exact g_iret rfl dL_writeClaim_14 hQ
def f_L_writeClaim_0  (x1 : Int32) (v : gV) : Int32 × gV := Sum.elim (fun (sr2 : Int32) => f_L_writeClaim_7  sr2 (0 : Int32) (f_X11_writeClaim x1 v).2) (fun (e : String) => if e = "java/util/NoSuchElementException" then (f_L_writeClaim_13   (f_X11_writeClaim x1 v).2) else ((0, v))) (f_X11_writeClaim x1 v).1
def p_L_writeClaim_0  (x1 : Int32) (v : gV) : Prop := (p_X11_writeClaim x1 v) ∧ ((∀ (sr2 : Int32), (f_X11_writeClaim x1 v).1 = Sum.inl sr2 → (p_L_writeClaim_7   sr2 (0 : Int32) (f_X11_writeClaim x1 v).2)) ∧ (∀ (e : String), (f_X11_writeClaim x1 v).1 = Sum.inr e → (((e = "java/util/NoSuchElementException") → (p_L_writeClaim_13    (f_X11_writeClaim x1 v).2)) ∧ (¬ (e = "java/util/NoSuchElementException") → (False)))))
set_option maxHeartbeats 4000000 in
set_option maxRecDepth 100000 in
theorem w_L_writeClaim_0 {E : gE} {d : Nat} {Q : gO → gS → Prop}   (hd : 9 ≤ d) (x1 : Int32) (v : gV) (hp : p_L_writeClaim_0   x1 v) (hQ : gqIV Q (f_L_writeClaim_0  x1 v)) : gG E m_L_writeClaim d Q 9 2054 (rS v) 0 [(0, .ref (gX E + 0)), (1, .int x1), (2, .ref (gX E + 570))] [] := by
  refine g_aload_n 2 dL_writeClaim_0 rfl ?_
  refine g_iconst dL_writeClaim_1 (0 : Int32) (by decide) ?_
  refine g_aload_n 0 dL_writeClaim_2 rfl ?_
  refine g_iload_n 1 dL_writeClaim_3 rfl ?_
  obtain ⟨h1, hp⟩ := hp
  refine g_callV (rest := [.int ((0 : Int32)), .ref (gX E + 570)]) s_L_157_X11 rfl (c_X11_writeClaim (E := E) (d := d - 1)   (by omega) x1 v h1) (by decide : kd 0 = (0, 8)) (show 0 < 572 by decide) rfl rfl (Nat.le_of_ble_eq_true rfl) (by omega) (by decide) (by decide) dL_writeClaim_4 (adTI (fun sr2 h3 => ?_)) (axTI (fun e h3 => ?_))
  · have hQ := ql (P := gqIV Q) h3 hQ
    have hp := hp.1 sr2 h3
    refine g_lv (lv' := []) [] rfl ?_
    exact w_L_writeClaim_7  hd    sr2 (0 : Int32) (f_X11_writeClaim x1 v).2 hp hQ
  · have hQ := qe (P := gqIV Q) h3 hQ
    have hp := hp.2 e h3
    by_cases h5 : e = "java/util/NoSuchElementException"
    · subst h5
      have hQ := qp (P := gqIV Q) rfl hQ
      have hp := hp.1 rfl
      refine g_catch2 [] (0, 9, 12, 21) [] rfl (fun z hz => absurd hz List.not_mem_nil) (by decide) (by decide) w_860 w_880 (fun q => ?_)
      refine g_astore_n [(3, .ref q), (0, .ref (gX E + 0)), (1, .int x1), (2, .ref (gX E + 570))] dL_writeClaim_12 rfl (by decide) rfl ?_
      refine g_lv (lv' := []) [] rfl ?_
      exact w_L_writeClaim_13  hd     (f_X11_writeClaim x1 v).2 hp hQ
    have hQ := qn (P := gqIV Q) h5 hQ
    have hp := hp.2 h5
    exact hp.elim
def f_L_writeClaim  (x1 : Int32) (v : gV) : Int32 × gV := f_L_writeClaim_0 x1 v
def p_L_writeClaim  (x1 : Int32) (v : gV) : Prop := p_L_writeClaim_0 x1 v
theorem c_L_writeClaim {E : gE} {d : Nat}   (hd : 9 ≤ d) (x1 : Int32) (v : gV) (hp : p_L_writeClaim x1 v) : CT E m_L_writeClaim d 9 2054 [.ref (gX E + 0), .int x1, .ref (gX E + 570)] (rS v) (Cq (.inl (some (.int ((f_L_writeClaim x1 v).1)))) (f_L_writeClaim x1 v).2) := CT.ofH ok_L_writeClaim rfl (Nat.le_of_ble_eq_true rfl) (w_L_writeClaim_0  hd x1 v hp ⟨rfl, rfl⟩)
def f_L_outputAt_9   (v : gV) : Int32 × gV := ((0 : Int32), v)
def p_L_outputAt_9   (v : gV) : Prop := True
set_option maxHeartbeats 4000000 in
set_option maxRecDepth 100000 in
theorem w_L_outputAt_9 {E : gE} {d : Nat} {Q : gO → gS → Prop}   (hd : 9 ≤ d)  (v : gV) (hp : p_L_outputAt_9    v) (hQ : gqIV Q (f_L_outputAt_9   v)) : gG E m_L_outputAt d Q 0 0 (rS v) 9 [] [] := by
  refine g_goto 15 dL_outputAt_9 (by decide) ?_
  refine g_iconst dL_outputAt_15 (0 : Int32) (by decide) ?_
  exact g_iret rfl dL_outputAt_16 hQ
def f_L_outputAt_7  (s0 : Int32) (s1 : Int32) (v : gV) : Int32 × gV := f_L_outputAt_9   (vL v 570 s1.toNatClampNeg s0.toInt64)
def p_L_outputAt_7  (s0 : Int32) (s1 : Int32) (v : gV) : Prop := (vp_in s1 1) ∧ (p_L_outputAt_9    (vL v 570 s1.toNatClampNeg s0.toInt64))
set_option maxHeartbeats 4000000 in
set_option maxRecDepth 100000 in
theorem w_L_outputAt_7 {E : gE} {d : Nat} {Q : gO → gS → Prop}   (hd : 9 ≤ d) (s0 : Int32) (s1 : Int32) (v : gV) (hp : p_L_outputAt_7   s0 s1 v) (hQ : gqIV Q (f_L_outputAt_7  s0 s1 v)) : gG E m_L_outputAt d Q 0 0 (rS v) 7 [] [.int s0, .int s1, .ref (gX E + 570)] := by
  refine g_i2l dL_outputAt_7 ?_
  obtain ⟨h4, hp⟩ := hp
  refine r_last (by decide : kd 570 = (3, 1)) (show 570 < 572 by decide) h4 dL_outputAt_8 ?_
  exact w_L_outputAt_9  hd     (vL v 570 s1.toNatClampNeg s0.toInt64) hp hQ
def f_L_outputAt_13   (v : gV) : Int32 × gV := ((1 : Int32), v)
def p_L_outputAt_13   (v : gV) : Prop := True
set_option maxHeartbeats 4000000 in
set_option maxRecDepth 100000 in
theorem w_L_outputAt_13 {E : gE} {d : Nat} {Q : gO → gS → Prop}   (hd : 9 ≤ d)  (v : gV) (hp : p_L_outputAt_13    v) (hQ : gqIV Q (f_L_outputAt_13   v)) : gG E m_L_outputAt d Q 0 0 (rS v) 13 [] [] := by
  refine g_iconst dL_outputAt_13 (1 : Int32) (by decide) ?_
  exact g_iret rfl dL_outputAt_14 hQ
def f_L_outputAt_0  (x1 : Int32) (v : gV) : Int32 × gV := Sum.elim (fun (sr2 : Int32) => f_L_outputAt_7  sr2 (0 : Int32) v) (fun (e : String) => if e = "java/lang/IndexOutOfBoundsException" then (f_L_outputAt_13   v) else ((0, v))) (f_X11_outputAt x1 v)
def p_L_outputAt_0  (x1 : Int32) (v : gV) : Prop := (p_X11_outputAt x1 v) ∧ ((∀ (sr2 : Int32), (f_X11_outputAt x1 v) = Sum.inl sr2 → (p_L_outputAt_7   sr2 (0 : Int32) v)) ∧ (∀ (e : String), (f_X11_outputAt x1 v) = Sum.inr e → (((e = "java/lang/IndexOutOfBoundsException") → (p_L_outputAt_13    v)) ∧ (¬ (e = "java/lang/IndexOutOfBoundsException") → (False)))))
set_option maxHeartbeats 4000000 in
set_option maxRecDepth 100000 in
theorem w_L_outputAt_0 {E : gE} {d : Nat} {Q : gO → gS → Prop}   (hd : 9 ≤ d) (x1 : Int32) (v : gV) (hp : p_L_outputAt_0   x1 v) (hQ : gqIV Q (f_L_outputAt_0  x1 v)) : gG E m_L_outputAt d Q 1 6 (rS v) 0 [(0, .ref (gX E + 0)), (1, .int x1), (2, .ref (gX E + 570))] [] := by
  refine g_aload_n 2 dL_outputAt_0 rfl ?_
  refine g_iconst dL_outputAt_1 (0 : Int32) (by decide) ?_
  refine g_aload_n 0 dL_outputAt_2 rfl ?_
  refine g_iload_n 1 dL_outputAt_3 rfl ?_
  obtain ⟨h1, hp⟩ := hp
  refine g_callV (rest := [.int ((0 : Int32)), .ref (gX E + 570)]) s_L_160_X11 rfl (c_X11_outputAt (E := E) (d := d - 1)   (by omega) x1 v h1) (by decide : kd 0 = (0, 8)) (show 0 < 572 by decide) rfl rfl (Nat.le_of_ble_eq_true rfl) (by omega) (by decide) (by decide) dL_outputAt_4 (adTI (fun sr2 h3 => ?_)) (axTI (fun e h3 => ?_))
  · have hQ := ql (P := gqIV Q) h3 hQ
    have hp := hp.1 sr2 h3
    refine g_lv (lv' := []) [] rfl ?_
    exact w_L_outputAt_7  hd    sr2 (0 : Int32) v hp hQ
  · have hQ := qe (P := gqIV Q) h3 hQ
    have hp := hp.2 e h3
    by_cases h5 : e = "java/lang/IndexOutOfBoundsException"
    · subst h5
      have hQ := qp (P := gqIV Q) rfl hQ
      have hp := hp.1 rfl
      refine g_catch2 [] (0, 9, 12, 30) [] rfl (fun z hz => absurd hz List.not_mem_nil) (by decide) (by decide) w_937 w_974 (fun q => ?_)
      refine g_astore_n [(3, .ref q), (0, .ref (gX E + 0)), (1, .int x1), (2, .ref (gX E + 570))] dL_outputAt_12 rfl (by decide) rfl ?_
      refine g_lv (lv' := []) [] rfl ?_
      exact w_L_outputAt_13  hd     v hp hQ
    have hQ := qn (P := gqIV Q) h5 hQ
    have hp := hp.2 h5
    exact hp.elim
def f_L_outputAt  (x1 : Int32) (v : gV) : Int32 × gV := f_L_outputAt_0 x1 v
def p_L_outputAt  (x1 : Int32) (v : gV) : Prop := p_L_outputAt_0 x1 v
theorem c_L_outputAt {E : gE} {d : Nat}   (hd : 9 ≤ d) (x1 : Int32) (v : gV) (hp : p_L_outputAt x1 v) : CT E m_L_outputAt d 1 6 [.ref (gX E + 0), .int x1, .ref (gX E + 570)] (rS v) (Cq (.inl (some (.int ((f_L_outputAt x1 v).1)))) (f_L_outputAt x1 v).2) := CT.ofH ok_L_outputAt rfl (Nat.le_of_ble_eq_true rfl) (w_L_outputAt_0  hd x1 v hp ⟨rfl, rfl⟩)
def f_L_type_9   (v : gV) : Int32 × gV := ((0 : Int32), v)
def p_L_type_9   (v : gV) : Prop := True
set_option maxHeartbeats 4000000 in
set_option maxRecDepth 100000 in
theorem w_L_type_9 {E : gE} {d : Nat} {Q : gO → gS → Prop}   (hd : 9 ≤ d)  (v : gV) (hp : p_L_type_9    v) (hQ : gqIV Q (f_L_type_9   v)) : gG E m_L_type d Q 0 0 (rS v) 9 [] [] := by
  refine g_goto 18 dL_type_9 (by decide) ?_
  refine g_iconst dL_type_18 (0 : Int32) (by decide) ?_
  exact g_iret rfl dL_type_19 hQ
def f_L_type_7  (s0 : Int32) (s1 : Int32) (v : gV) : Int32 × gV := f_L_type_9   (vL v 570 s1.toNatClampNeg s0.toInt64)
def p_L_type_7  (s0 : Int32) (s1 : Int32) (v : gV) : Prop := (vp_in s1 1) ∧ (p_L_type_9    (vL v 570 s1.toNatClampNeg s0.toInt64))
set_option maxHeartbeats 4000000 in
set_option maxRecDepth 100000 in
theorem w_L_type_7 {E : gE} {d : Nat} {Q : gO → gS → Prop}   (hd : 9 ≤ d) (s0 : Int32) (s1 : Int32) (v : gV) (hp : p_L_type_7   s0 s1 v) (hQ : gqIV Q (f_L_type_7  s0 s1 v)) : gG E m_L_type d Q 0 0 (rS v) 7 [] [.int s0, .int s1, .ref (gX E + 570)] := by
  refine g_i2l dL_type_7 ?_
  obtain ⟨h4, hp⟩ := hp
  refine r_last (by decide : kd 570 = (3, 1)) (show 570 < 572 by decide) h4 dL_type_8 ?_
  exact w_L_type_9  hd     (vL v 570 s1.toNatClampNeg s0.toInt64) hp hQ
def f_L_type_13   (v : gV) : Int32 × gV := ((1 : Int32), v)
def p_L_type_13   (v : gV) : Prop := True
set_option maxHeartbeats 4000000 in
set_option maxRecDepth 100000 in
theorem w_L_type_13 {E : gE} {d : Nat} {Q : gO → gS → Prop}   (hd : 9 ≤ d)  (v : gV) (hp : p_L_type_13    v) (hQ : gqIV Q (f_L_type_13   v)) : gG E m_L_type d Q 0 0 (rS v) 13 [] [] := by
  refine g_iconst dL_type_13 (1 : Int32) (by decide) ?_
  exact g_iret rfl dL_type_14 hQ
def f_L_type_16   (v : gV) : Int32 × gV := ((2 : Int32), v)
def p_L_type_16   (v : gV) : Prop := True
set_option maxHeartbeats 4000000 in
set_option maxRecDepth 100000 in
theorem w_L_type_16 {E : gE} {d : Nat} {Q : gO → gS → Prop}   (hd : 9 ≤ d)  (v : gV) (hp : p_L_type_16    v) (hQ : gqIV Q (f_L_type_16   v)) : gG E m_L_type d Q 0 0 (rS v) 16 [] [] := by
  refine g_iconst dL_type_16 (2 : Int32) (by decide) ?_
  exact g_iret rfl dL_type_17 hQ
def f_L_type_0  (x1 : Int32) (v : gV) : Int32 × gV := Sum.elim (fun (sr2 : Int32) => f_L_type_7  sr2 (0 : Int32) (f_X11_type x1 v).2) (fun (e : String) => if e = "java/lang/IllegalArgumentException" then (f_L_type_13   (f_X11_type x1 v).2) else (if e = "java/lang/IllegalStateException" then (f_L_type_16   (f_X11_type x1 v).2) else ((0, v)))) (f_X11_type x1 v).1
def p_L_type_0  (x1 : Int32) (v : gV) : Prop := (p_X11_type x1 v) ∧ ((∀ (sr2 : Int32), (f_X11_type x1 v).1 = Sum.inl sr2 → (p_L_type_7   sr2 (0 : Int32) (f_X11_type x1 v).2)) ∧ (∀ (e : String), (f_X11_type x1 v).1 = Sum.inr e → (((e = "java/lang/IllegalArgumentException") → (p_L_type_13    (f_X11_type x1 v).2)) ∧ (¬ (e = "java/lang/IllegalArgumentException") → (((e = "java/lang/IllegalStateException") → (p_L_type_16    (f_X11_type x1 v).2)) ∧ (¬ (e = "java/lang/IllegalStateException") → (False)))))))
set_option maxHeartbeats 4000000 in
set_option maxRecDepth 100000 in
theorem w_L_type_0 {E : gE} {d : Nat} {Q : gO → gS → Prop}   (hd : 9 ≤ d) (x1 : Int32) (v : gV) (hp : p_L_type_0   x1 v) (hQ : gqIV Q (f_L_type_0  x1 v)) : gG E m_L_type d Q 2 262 (rS v) 0 [(0, .ref (gX E + 0)), (1, .int x1), (2, .ref (gX E + 570))] [] := by
  refine g_aload_n 2 dL_type_0 rfl ?_
  refine g_iconst dL_type_1 (0 : Int32) (by decide) ?_
  refine g_aload_n 0 dL_type_2 rfl ?_
  refine g_iload_n 1 dL_type_3 rfl ?_
  obtain ⟨h1, hp⟩ := hp
  refine g_callV (rest := [.int ((0 : Int32)), .ref (gX E + 570)]) s_L_163_X11 rfl (c_X11_type (E := E) (d := d - 1)   (by omega) x1 v h1) (by decide : kd 0 = (0, 8)) (show 0 < 572 by decide) rfl rfl (Nat.le_of_ble_eq_true rfl) (by omega) (by decide) (by decide) dL_type_4 (adTI (fun sr2 h3 => ?_)) (axTI (fun e h3 => ?_))
  · have hQ := ql (P := gqIV Q) h3 hQ
    have hp := hp.1 sr2 h3
    refine g_lv (lv' := []) [] rfl ?_
    exact w_L_type_7  hd    sr2 (0 : Int32) (f_X11_type x1 v).2 hp hQ
  · have hQ := qe (P := gqIV Q) h3 hQ
    have hp := hp.2 e h3
    by_cases h5 : e = "java/lang/IllegalArgumentException"
    · subst h5
      have hQ := qp (P := gqIV Q) rfl hQ
      have hp := hp.1 rfl
      refine g_catch2 [] (0, 9, 12, 13) [(0, 9, 15, 15)] rfl (fun z hz => absurd hz List.not_mem_nil) (by decide) (by decide) w_722 w_753 (fun q => ?_)
      refine g_astore_n [(3, .ref q), (0, .ref (gX E + 0)), (1, .int x1), (2, .ref (gX E + 570))] dL_type_12 rfl (by decide) rfl ?_
      refine g_lv (lv' := []) [] rfl ?_
      exact w_L_type_13  hd     (f_X11_type x1 v).2 hp hQ
    have hQ := qn (P := gqIV Q) h5 hQ
    have hp := hp.2 h5
    by_cases h6 : e = "java/lang/IllegalStateException"
    · subst h6
      have hQ := qp (P := gqIV Q) rfl hQ
      have hp := hp.1 rfl
      refine g_catch2 [(0, 9, 12, 13)] (0, 9, 15, 15) [] rfl (List.forall_mem_cons.mpr ⟨⟨by decide, "java/lang/IllegalArgumentException", w_722, fun s hK => gnc (by decide +kernel) hK⟩, (fun z hz => absurd hz List.not_mem_nil)⟩) (by decide) (by decide) w_723 w_834 (fun q => ?_)
      refine g_astore_n [(3, .ref q), (0, .ref (gX E + 0)), (1, .int x1), (2, .ref (gX E + 570))] dL_type_15 rfl (by decide) rfl ?_
      refine g_lv (lv' := []) [] rfl ?_
      exact w_L_type_16  hd     (f_X11_type x1 v).2 hp hQ
    have hQ := qn (P := gqIV Q) h6 hQ
    have hp := hp.2 h6
    exact hp.elim
def f_L_type  (x1 : Int32) (v : gV) : Int32 × gV := f_L_type_0 x1 v
def p_L_type  (x1 : Int32) (v : gV) : Prop := p_L_type_0 x1 v
theorem c_L_type {E : gE} {d : Nat}   (hd : 9 ≤ d) (x1 : Int32) (v : gV) (hp : p_L_type x1 v) : CT E m_L_type d 2 262 [.ref (gX E + 0), .int x1, .ref (gX E + 570)] (rS v) (Cq (.inl (some (.int ((f_L_type x1 v).1)))) (f_L_type x1 v).2) := CT.ofH ok_L_type rfl (Nat.le_of_ble_eq_true rfl) (w_L_type_0  hd x1 v hp ⟨rfl, rfl⟩)
def f_X7_readSign_29  (s0 : Int32) (v : gV) : Int32 × gV := (s0, v)
def p_X7_readSign_29  (s0 : Int32) (v : gV) : Prop := True
set_option maxHeartbeats 4000000 in
set_option maxRecDepth 100000 in
theorem w_X7_readSign_29 {E : gE} {d : Nat} {Q : gO → gS → Prop}   (hd : 8 ≤ d) (s0 : Int32) (v : gV) (hp : p_X7_readSign_29   s0 v) (hQ : gqIV Q (f_X7_readSign_29  s0 v)) : gG E m_X7_readSign d Q 0 0 (rS v) 29 [] [.int s0] := by
  exact g_iret rfl dX7_readSign_29 hQ
def f_X7_readSign_21  (s0 : Int32) (v : gV) : Int32 × gV := f_X7_readSign_29  s0 v
def p_X7_readSign_21  (s0 : Int32) (v : gV) : Prop := p_X7_readSign_29   s0 v
set_option maxHeartbeats 4000000 in
set_option maxRecDepth 100000 in
theorem w_X7_readSign_21 {E : gE} {d : Nat} {Q : gO → gS → Prop}   (hd : 8 ≤ d) (s0 : Int32) (v : gV) (hp : p_X7_readSign_21   s0 v) (hQ : gqIV Q (f_X7_readSign_21  s0 v)) : gG E m_X7_readSign d Q 0 0 (rS v) 21 [] [.int s0] := by
  refine g_goto 29 dX7_readSign_21 (by decide) ?_
  exact w_X7_readSign_29  hd    s0 v hp hQ
def f_X7_readSign_10  (s0 : Int32) (v : gV) : Int32 × gV := (s0, v)
def p_X7_readSign_10  (s0 : Int32) (v : gV) : Prop := True
set_option maxHeartbeats 4000000 in
set_option maxRecDepth 100000 in
theorem w_X7_readSign_10 {E : gE} {d : Nat} {Q : gO → gS → Prop}   (hd : 8 ≤ d) (s0 : Int32) (v : gV) (hp : p_X7_readSign_10   s0 v) (hQ : gqIV Q (f_X7_readSign_10  s0 v)) : gG E m_X7_readSign d Q 0 0 (rS v) 10 [] [.int s0] := by
  exact g_iret rfl dX7_readSign_10 hQ
def f_X7_readSign_0  (x1 : Int32) (v : gV) : Int32 × gV := if x1 = (78 : Int32) then (f_X7_readSign_10  ((f_X7_readNumber  v).1) (f_X7_readNumber  v).2) else (if x1 = (68 : Int32) then (f_X7_readSign_21  ((f_X7_readDigit  v).1) (f_X7_readDigit  v).2) else (f_X7_readSign_29  ((f_X7_readCharacter x1 v).1) (f_X7_readCharacter x1 v).2))
def p_X7_readSign_0  (x1 : Int32) (v : gV) : Prop := ((x1 = (78 : Int32)) → ((p_X7_readNumber  v) ∧ (p_X7_readSign_10   ((f_X7_readNumber  v).1) (f_X7_readNumber  v).2))) ∧ (¬ (x1 = (78 : Int32)) → (((x1 = (68 : Int32)) → ((p_X7_readDigit  v) ∧ (p_X7_readSign_21   ((f_X7_readDigit  v).1) (f_X7_readDigit  v).2))) ∧ (¬ (x1 = (68 : Int32)) → ((p_X7_readCharacter x1 v) ∧ (p_X7_readSign_29   ((f_X7_readCharacter x1 v).1) (f_X7_readCharacter x1 v).2)))))
set_option maxHeartbeats 4000000 in
set_option maxRecDepth 100000 in
theorem w_X7_readSign_0 {E : gE} {d : Nat} {Q : gO → gS → Prop}   (hd : 8 ≤ d) (x1 : Int32) (v : gV) (hp : p_X7_readSign_0   x1 v) (hQ : gqIV Q (f_X7_readSign_0  x1 v)) : gG E m_X7_readSign d Q 0 0 (rS v) 0 [(0, .ref (gX E + 553)), (1, .int x1)] [] := by
  refine g_iload_n 1 dX7_readSign_0 rfl ?_
  refine g_bipush dX7_readSign_1 (78 : Int32) (by decide) ?_
  refine g_icmp_ne 11 dX7_readSign_3 (by decide) (fun h1 => ?_) (fun h1 => ?_)
  · have hQ := qn (P := gqIV Q) h1 hQ
    have hp := hp.2 h1
    refine g_iload_n 1 dX7_readSign_11 rfl ?_
    refine g_bipush dX7_readSign_12 (68 : Int32) (by decide) ?_
    refine g_icmp_ne 24 dX7_readSign_14 (by decide) (fun h2 => ?_) (fun h2 => ?_)
    · have hQ := qn (P := gqIV Q) h2 hQ
      have hp := hp.2 h2
      refine g_aload_n 0 dX7_readSign_24 rfl ?_
      refine g_iload_n 1 dX7_readSign_25 rfl ?_
      obtain ⟨h3, hp⟩ := hp
      refine g_callV (rest := []) s_X7_99_X7 rfl (c_X7_readCharacter (E := E) (d := d - 1)   (by omega) x1 v h3) (by decide : kd 553 = (0, 5)) (show 553 < 572 by decide) rfl rfl (Nat.le_of_ble_eq_true rfl) (by omega) (by decide) (by decide) dX7_readSign_26 (adV ?_) axN
      refine g_lv (lv' := []) [] rfl ?_
      exact w_X7_readSign_29  hd    ((f_X7_readCharacter x1 v).1) (f_X7_readCharacter x1 v).2 hp hQ
    · have hQ := qp (P := gqIV Q) h2 hQ
      have hp := hp.1 h2
      refine g_aload_n 0 dX7_readSign_17 rfl ?_
      obtain ⟨h4, hp⟩ := hp
      refine g_callV (rest := []) s_X7_96_X7 rfl (c_X7_readDigit (E := E) (d := d - 1)   (by omega)  v h4) (by decide : kd 553 = (0, 5)) (show 553 < 572 by decide) rfl rfl (Nat.le_of_ble_eq_true rfl) (by omega) (by decide) (by decide) dX7_readSign_18 (adV ?_) axN
      refine g_lv (lv' := []) [] rfl ?_
      exact w_X7_readSign_21  hd    ((f_X7_readDigit  v).1) (f_X7_readDigit  v).2 hp hQ
  · have hQ := qp (P := gqIV Q) h1 hQ
    have hp := hp.1 h1
    refine g_aload_n 0 dX7_readSign_6 rfl ?_
    obtain ⟨h5, hp⟩ := hp
    refine g_callV (rest := []) s_X7_93_X7 rfl (c_X7_readNumber (E := E) (d := d - 1)   (by omega)  v h5) (by decide : kd 553 = (0, 5)) (show 553 < 572 by decide) rfl rfl (Nat.le_of_ble_eq_true rfl) (by omega) (by decide) (by decide) dX7_readSign_7 (adV ?_) axN
    refine g_lv (lv' := []) [] rfl ?_
    exact w_X7_readSign_10  hd    ((f_X7_readNumber  v).1) (f_X7_readNumber  v).2 hp hQ
def f_X7_readSign  (x1 : Int32) (v : gV) : Int32 × gV := f_X7_readSign_0 x1 v
def p_X7_readSign  (x1 : Int32) (v : gV) : Prop := p_X7_readSign_0 x1 v
theorem c_X7_readSign {E : gE} {d : Nat}   (hd : 8 ≤ d) (x1 : Int32) (v : gV) (hp : p_X7_readSign x1 v) : CT E m_X7_readSign d 0 0 [.ref (gX E + 553), .int x1] (rS v) (Cq (.inl (some (.int ((f_X7_readSign x1 v).1)))) (f_X7_readSign x1 v).2) := CT.of ok_X7_readSign rfl (Nat.le_of_ble_eq_true rfl) (w_X7_readSign_0  hd x1 v hp ⟨rfl, rfl⟩)
def f_X7_fits_57 (i1 : Nat) (K4 : Int32 → Int32 → gV → Int32 × gV)  (x2 : Int32) (x3 : Int32) (v : gV) : Int32 × gV := K4 x2 (x3 + 1) v
def p_X7_fits_57 (i1 : Nat) (K4 : Int32 → Int32 → gV → Int32 × gV)  (PK4 : Int32 → Int32 → gV → Prop)  (x2 : Int32) (x3 : Int32) (v : gV) : Prop := PK4 x2 (x3 + 1) v
set_option maxHeartbeats 4000000 in
set_option maxRecDepth 100000 in
theorem w_X7_fits_57 {E : gE} {d : Nat} {Q : gO → gS → Prop} (i1 : Nat) (hi1 : i1 < 10) (hd : 9 ≤ d) (K4 : Int32 → Int32 → gV → Int32 × gV)  (PK4 : Int32 → Int32 → gV → Prop)  (hK4 : ∀ (x2 : Int32) (x3 : Int32) (v : gV), PK4 x2 x3 v → gqIV Q (K4 x2 x3 v) → gG E m_X7_fits d Q 0 0 (rS v) 4 [(0, .ref (gX E + 553)), (1, .ref (gva E (40 + i1))), (2, .int x2), (3, .int x3)] [])  (x2 : Int32) (x3 : Int32) (v : gV) (hp : p_X7_fits_57 i1 K4 PK4 x2 x3 v) (hQ : gqIV Q (f_X7_fits_57 i1 K4 x2 x3 v)) : gG E m_X7_fits d Q 0 0 (rS v) 57 [(0, .ref (gX E + 553)), (1, .ref (gva E (40 + i1))), (2, .int x2), (3, .int x3)] [] := by
  refine g_iinc 3 (x3 + 1) [(3, .int (x3 + 1)), (0, .ref (gX E + 553)), (1, .ref (gva E (40 + i1))), (2, .int x2)] dX7_fits_57 rfl rfl (by decide) rfl ?_
  refine g_goto 4 dX7_fits_60 (by decide) ?_
  refine g_lv (lv' := [(0, .ref (gX E + 553)), (1, .ref (gva E (40 + i1))), (2, .int x2), (3, .int (x3 + 1))]) [1, 2, 3, 0] rfl ?_
  exact hK4 x2 (x3 + 1) v hp hQ
def f_X7_fits_54 (i1 : Nat) (K4 : Int32 → Int32 → gV → Int32 × gV)  (x2 : Int32) (x3 : Int32) (v : gV) : Int32 × gV := f_X7_fits_57 i1 K4 (x2 + 1) x3 v
def p_X7_fits_54 (i1 : Nat) (K4 : Int32 → Int32 → gV → Int32 × gV)  (PK4 : Int32 → Int32 → gV → Prop)  (x2 : Int32) (x3 : Int32) (v : gV) : Prop := p_X7_fits_57 i1 K4 PK4 (x2 + 1) x3 v
set_option maxHeartbeats 4000000 in
set_option maxRecDepth 100000 in
theorem w_X7_fits_54 {E : gE} {d : Nat} {Q : gO → gS → Prop} (i1 : Nat) (hi1 : i1 < 10) (hd : 9 ≤ d) (K4 : Int32 → Int32 → gV → Int32 × gV)  (PK4 : Int32 → Int32 → gV → Prop)  (hK4 : ∀ (x2 : Int32) (x3 : Int32) (v : gV), PK4 x2 x3 v → gqIV Q (K4 x2 x3 v) → gG E m_X7_fits d Q 0 0 (rS v) 4 [(0, .ref (gX E + 553)), (1, .ref (gva E (40 + i1))), (2, .int x2), (3, .int x3)] [])  (x2 : Int32) (x3 : Int32) (v : gV) (hp : p_X7_fits_54 i1 K4 PK4 x2 x3 v) (hQ : gqIV Q (f_X7_fits_54 i1 K4 x2 x3 v)) : gG E m_X7_fits d Q 0 0 (rS v) 54 [(0, .ref (gX E + 553)), (1, .ref (gva E (40 + i1))), (2, .int x2), (3, .int x3)] [] := by
  refine g_iinc 2 (x2 + 1) [(2, .int (x2 + 1)), (0, .ref (gX E + 553)), (1, .ref (gva E (40 + i1))), (3, .int x3)] dX7_fits_54 rfl rfl (by decide) rfl ?_
  refine g_lv (lv' := [(0, .ref (gX E + 553)), (1, .ref (gva E (40 + i1))), (2, .int (x2 + 1)), (3, .int x3)]) [1, 2, 0, 3] rfl ?_
  exact w_X7_fits_57 i1 hi1 hd K4 PK4 hK4 (x2 + 1) x3 v hp hQ
def f_X7_fits_21 (i1 : Nat) (K4 : Int32 → Int32 → gV → Int32 × gV)  (x2 : Int32) (x3 : Int32) (s0 : Int32) (v : gV) : Int32 × gV := if 0 ≤ s0 then (if (f_X7_isPlaceholder ((gByt.getD i1 []).getD x3.toNatClampNeg 0) v) = 0 then (f_X7_fits_57 i1 K4 x2 x3 v) else (if (4 : Int32) ≤ x2 then (f_X7_fits_57 i1 K4 x2 x3 v) else (f_X7_fits_54 i1 K4 x2 x3 (vM v 556 x2.toNatClampNeg s0)))) else (((0 : Int32), v))
def p_X7_fits_21 (i1 : Nat) (K4 : Int32 → Int32 → gV → Int32 × gV)  (PK4 : Int32 → Int32 → gV → Prop)  (x2 : Int32) (x3 : Int32) (s0 : Int32) (v : gV) : Prop := ((0 ≤ s0) → ((vp_in x3 (gLen.getD i1 0)) ∧ ((p_X7_isPlaceholder ((gByt.getD i1 []).getD x3.toNatClampNeg 0) v) ∧ ((((f_X7_isPlaceholder ((gByt.getD i1 []).getD x3.toNatClampNeg 0) v) = 0) → (p_X7_fits_57 i1 K4 PK4 x2 x3 v)) ∧ (¬ ((f_X7_isPlaceholder ((gByt.getD i1 []).getD x3.toNatClampNeg 0) v) = 0) → ((((4 : Int32) ≤ x2) → (p_X7_fits_57 i1 K4 PK4 x2 x3 v)) ∧ (¬ ((4 : Int32) ≤ x2) → ((vp_in x2 4) ∧ (p_X7_fits_54 i1 K4 PK4 x2 x3 (vM v 556 x2.toNatClampNeg s0)))))))))) ∧ (¬ (0 ≤ s0) → (True))
set_option maxHeartbeats 4000000 in
set_option maxRecDepth 100000 in
theorem w_X7_fits_21 {E : gE} {d : Nat} {Q : gO → gS → Prop} (i1 : Nat) (hi1 : i1 < 10) (hd : 9 ≤ d) (K4 : Int32 → Int32 → gV → Int32 × gV)  (PK4 : Int32 → Int32 → gV → Prop)  (hK4 : ∀ (x2 : Int32) (x3 : Int32) (v : gV), PK4 x2 x3 v → gqIV Q (K4 x2 x3 v) → gG E m_X7_fits d Q 0 0 (rS v) 4 [(0, .ref (gX E + 553)), (1, .ref (gva E (40 + i1))), (2, .int x2), (3, .int x3)] [])  (x2 : Int32) (x3 : Int32) (s0 : Int32) (v : gV) (hp : p_X7_fits_21 i1 K4 PK4 x2 x3 s0 v) (hQ : gqIV Q (f_X7_fits_21 i1 K4 x2 x3 s0 v)) : gG E m_X7_fits d Q 0 0 (rS v) 21 [(0, .ref (gX E + 553)), (1, .ref (gva E (40 + i1))), (2, .int x2), (3, .int x3)] [.int s0] := by
  refine g_istore [(4, .int s0), (0, .ref (gX E + 553)), (1, .ref (gva E (40 + i1))), (2, .int x2), (3, .int x3)] dX7_fits_21 (by decide) rfl ?_
  refine g_iload 0 dX7_fits_23 rfl ?_
  refine g_if_ge 30 dX7_fits_25 (by decide) (fun h4 => ?_) (fun h4 => ?_)
  · have hQ := qp (P := gqIV Q) h4 hQ
    have hp := hp.1 h4
    refine g_aload_n 2 dX7_fits_30 rfl ?_
    refine g_iload_n 4 dX7_fits_31 rfl ?_
    obtain ⟨h5, hp⟩ := hp
    refine r_callT (rest := []) (.int ((gByt.getD i1 []).getD x3.toNatClampNeg 0)) s_X7_84_St rfl (ct_sat (d := d - 1) hi1 (by omega) x3 h5 v) hi1 rfl rfl (Nat.le_of_ble_eq_true rfl) (by omega) dX7_fits_32 ?_
    obtain ⟨h6, hp⟩ := hp
    refine g_callS (rest := []) s_X7_89 rfl (c_X7_isPlaceholder (E := E) (d := d - 1)   (by omega) ((gByt.getD i1 []).getD x3.toNatClampNeg 0) v h6) rfl rfl (Nat.le_of_ble_eq_true rfl) (by omega) (by decide) (by decide) dX7_fits_35 (adV ?_) axN
    refine g_if_eq 57 dX7_fits_38 (by decide) (fun h7 => ?_) (fun h7 => ?_)
    · have hQ := qp (P := gqIV Q) h7 hQ
      have hp := hp.1 h7
      refine g_lv (lv' := [(0, .ref (gX E + 553)), (1, .ref (gva E (40 + i1))), (2, .int x2), (3, .int x3)]) [1, 2, 3, 4] rfl ?_
      exact w_X7_fits_57 i1 hi1 hd K4 PK4 hK4 x2 x3 v hp hQ
    · have hQ := qn (P := gqIV Q) h7 hQ
      have hp := hp.2 h7
      refine g_iload_n 3 dX7_fits_41 rfl ?_
      refine g_iconst dX7_fits_42 (4 : Int32) (by decide) ?_
      refine g_icmp_ge 57 dX7_fits_43 (by decide) (fun h8 => ?_) (fun h8 => ?_)
      · have hQ := qp (P := gqIV Q) h8 hQ
        have hp := hp.1 h8
        refine g_lv (lv' := [(0, .ref (gX E + 553)), (1, .ref (gva E (40 + i1))), (2, .int x2), (3, .int x3)]) [1, 2, 3, 4] rfl ?_
        exact w_X7_fits_57 i1 hi1 hd K4 PK4 hK4 x2 x3 v hp hQ
      · have hQ := qn (P := gqIV Q) h8 hQ
        have hp := hp.2 h8
        refine g_aload_n 1 dX7_fits_46 rfl ?_
        refine r_get (.ref (gX E + 556)) f_X7_18_X7 rfl (by decide : kd 553 = (0, 5)) (show 553 < 572 by decide) dX7_fits_47 (fun _ => rfl) ?_
        refine g_iload_n 3 dX7_fits_50 rfl ?_
        refine g_iload 0 dX7_fits_51 rfl ?_
        obtain ⟨h9, hp⟩ := hp
        refine r_iast (by decide : kd 556 = (1, 4)) (show 556 < 572 by decide) h9 dX7_fits_53 ?_
        refine g_lv (lv' := [(0, .ref (gX E + 553)), (1, .ref (gva E (40 + i1))), (2, .int x2), (3, .int x3)]) [1, 2, 3, 4] rfl ?_
        exact w_X7_fits_54 i1 hi1 hd K4 PK4 hK4 x2 x3 (vM v 556 x2.toNatClampNeg s0) hp hQ
  · have hQ := qn (P := gqIV Q) h4 hQ
    have hp := hp.2 h4
    refine g_iconst dX7_fits_28 (0 : Int32) (by decide) ?_
    exact g_zret rfl rfl dX7_fits_29 hQ
def f_X7_fits_4 (i1 : Nat) : Nat → Int32 → Int32 → gV → Int32 × gV
  | 0, _, _, v => (0, v)
  | n + 1, x2, x3, v => if (nI (gLen.getD i1 0)) ≤ x3 then (((1 : Int32), v)) else (f_X7_fits_21 i1 (fun x2 x3 v => f_X7_fits_4 i1  n x2 x3 v) x2 x3 ((f_X7_readSign ((gByt.getD i1 []).getD x3.toNatClampNeg 0) v).1) (f_X7_readSign ((gByt.getD i1 []).getD x3.toNatClampNeg 0) v).2)
def p_X7_fits_4 (i1 : Nat) : Nat → Int32 → Int32 → gV → Prop
  | 0, _, _, _ => False
  | n + 1, x2, x3, v => (((nI (gLen.getD i1 0)) ≤ x3) → (True)) ∧ (¬ ((nI (gLen.getD i1 0)) ≤ x3) → ((vp_in x3 (gLen.getD i1 0)) ∧ ((p_X7_readSign ((gByt.getD i1 []).getD x3.toNatClampNeg 0) v) ∧ (p_X7_fits_21 i1 (fun x2 x3 v => f_X7_fits_4 i1  n x2 x3 v) (fun x2 x3 v => p_X7_fits_4 i1   n x2 x3 v) x2 x3 ((f_X7_readSign ((gByt.getD i1 []).getD x3.toNatClampNeg 0) v).1) (f_X7_readSign ((gByt.getD i1 []).getD x3.toNatClampNeg 0) v).2))))
set_option maxHeartbeats 4000000 in
set_option maxRecDepth 100000 in
theorem w_X7_fits_4 {E : gE} {d : Nat} {Q : gO → gS → Prop} (i1 : Nat) (hi1 : i1 < 10) (hd : 9 ≤ d) : ∀ (n : Nat) (x2 : Int32) (x3 : Int32) (v : gV), p_X7_fits_4 i1   n x2 x3 v → gqIV Q (f_X7_fits_4 i1  n x2 x3 v) → gG E m_X7_fits d Q 0 0 (rS v) 4 [(0, .ref (gX E + 553)), (1, .ref (gva E (40 + i1))), (2, .int x2), (3, .int x3)] [] := by
  intro n
  induction n with
  | zero => intro x2 x3 v hp; exact hp.elim
  | succ n ih =>
    intro x2 x3 v hp hQ
    refine g_iload_n 3 dX7_fits_4 rfl ?_
    refine g_aload_n 1 dX7_fits_5 rfl ?_
    refine r_callT (rest := [.int x3]) (.int (nI (gLen.getD i1 0))) s_X7_81_St rfl (ct_slen (d := d - 1) hi1 (by omega) v) hi1 rfl rfl (Nat.le_of_ble_eq_true rfl) (by omega) dX7_fits_6 ?_
    refine g_icmp_ge 63 dX7_fits_9 (by decide) (fun h1 => ?_) (fun h1 => ?_)
    · have hQ := qp (P := gqIV Q) h1 hQ
      have hp := hp.1 h1
      refine g_iconst dX7_fits_63 (1 : Int32) (by decide) ?_
      exact g_zret rfl rfl dX7_fits_64 hQ
    · have hQ := qn (P := gqIV Q) h1 hQ
      have hp := hp.2 h1
      refine g_aload_n 0 dX7_fits_12 rfl ?_
      refine g_aload_n 1 dX7_fits_13 rfl ?_
      refine g_iload_n 3 dX7_fits_14 rfl ?_
      obtain ⟨h2, hp⟩ := hp
      refine r_callT (rest := [.ref (gX E + 553)]) (.int ((gByt.getD i1 []).getD x3.toNatClampNeg 0)) s_X7_84_St rfl (ct_sat (d := d - 1) hi1 (by omega) x3 h2 v) hi1 rfl rfl (Nat.le_of_ble_eq_true rfl) (by omega) dX7_fits_15 ?_
      obtain ⟨h3, hp⟩ := hp
      refine g_callV (rest := []) s_X7_85_X7 rfl (c_X7_readSign (E := E) (d := d - 1)   (by omega) ((gByt.getD i1 []).getD x3.toNatClampNeg 0) v h3) (by decide : kd 553 = (0, 5)) (show 553 < 572 by decide) rfl rfl (Nat.le_of_ble_eq_true rfl) (by omega) (by decide) (by decide) dX7_fits_18 (adV ?_) axN
      exact w_X7_fits_21 i1 hi1 hd (fun x2 x3 v => f_X7_fits_4 i1  n x2 x3 v) (fun x2 x3 v => p_X7_fits_4 i1   n x2 x3 v) ih x2 x3 ((f_X7_readSign ((gByt.getD i1 []).getD x3.toNatClampNeg 0) v).1) (f_X7_readSign ((gByt.getD i1 []).getD x3.toNatClampNeg 0) v).2 hp hQ
def f_X7_fits_0 (i1 : Nat)  (v : gV) : Int32 × gV := f_X7_fits_4 i1  5000 (0 : Int32) (0 : Int32) v
def p_X7_fits_0 (i1 : Nat)  (v : gV) : Prop := p_X7_fits_4 i1   5000 (0 : Int32) (0 : Int32) v
set_option maxHeartbeats 4000000 in
set_option maxRecDepth 100000 in
theorem w_X7_fits_0 {E : gE} {d : Nat} {Q : gO → gS → Prop} (i1 : Nat) (hi1 : i1 < 10) (hd : 9 ≤ d)  (v : gV) (hp : p_X7_fits_0 i1    v) (hQ : gqIV Q (f_X7_fits_0 i1   v)) : gG E m_X7_fits d Q 0 0 (rS v) 0 [(0, .ref (gX E + 553)), (1, .ref (gva E (40 + i1)))] [] := by
  refine g_iconst dX7_fits_0 (0 : Int32) (by decide) ?_
  refine g_istore_n [(2, .int ((0 : Int32))), (0, .ref (gX E + 553)), (1, .ref (gva E (40 + i1)))] dX7_fits_1 rfl (by decide) rfl ?_
  refine g_iconst dX7_fits_2 (0 : Int32) (by decide) ?_
  refine g_istore_n [(3, .int ((0 : Int32))), (2, .int ((0 : Int32))), (0, .ref (gX E + 553)), (1, .ref (gva E (40 + i1)))] dX7_fits_3 rfl (by decide) rfl ?_
  refine g_lv (lv' := [(0, .ref (gX E + 553)), (1, .ref (gva E (40 + i1))), (2, .int ((0 : Int32))), (3, .int ((0 : Int32)))]) [2, 3, 1, 0] rfl ?_
  exact w_X7_fits_4 i1 hi1 hd    5000 (0 : Int32) (0 : Int32) v hp hQ
def f_X7_fits (i1 : Nat)  (v : gV) : Int32 × gV := f_X7_fits_0 i1  v
def p_X7_fits (i1 : Nat)  (v : gV) : Prop := p_X7_fits_0 i1  v
theorem c_X7_fits {E : gE} {d : Nat} (i1 : Nat) (hi1 : i1 < 10) (hd : 9 ≤ d)  (v : gV) (hp : p_X7_fits i1  v) : CT E m_X7_fits d 0 0 [.ref (gX E + 553), .ref (gva E (40 + i1))] (rS v) (Cq (.inl (some (.int ((f_X7_fits i1  v).1)))) (f_X7_fits i1  v).2) := CT.of ok_X7_fits rfl (Nat.le_of_ble_eq_true rfl) (w_X7_fits_0 i1 hi1 hd  v hp ⟨rfl, rfl⟩)
def f_X7_execute_297 (b2 : Nat)  (v : gV) : (Int32 ⊕ String) × gV := (Sum.inl (1 : Int32), v)
def p_X7_execute_297 (b2 : Nat)  (v : gV) : Prop := True
set_option maxHeartbeats 4000000 in
set_option maxRecDepth 100000 in
theorem w_X7_execute_297 {E : gE} {d : Nat} {Q : gO → gS → Prop} (b2 : Nat) (hb2 : isBk b2) (hd : 11 ≤ d)  (v : gV) (hp : p_X7_execute_297 b2    v) (hQ : gqTIV Q (f_X7_execute_297 b2   v)) : gG E m_X7_execute d Q 0 0 (rS v) 297 [] [] := by
  refine g_iconst dX7_execute_297 (1 : Int32) (by decide) ?_
  exact g_zret rfl rfl dX7_execute_298 hQ
def f_X7_execute_118 (b2 : Nat) (s0 : Int32) (v : gV) : (Int32 ⊕ String) × gV := f_X7_execute_297 b2   v
def p_X7_execute_118 (b2 : Nat) (s0 : Int32) (v : gV) : Prop := p_X7_execute_297 b2    v
set_option maxHeartbeats 4000000 in
set_option maxRecDepth 100000 in
theorem w_X7_execute_118 {E : gE} {d : Nat} {Q : gO → gS → Prop} (b2 : Nat) (hb2 : isBk b2) (hd : 11 ≤ d) (s0 : Int32) (v : gV) (hp : p_X7_execute_118 b2   s0 v) (hQ : gqTIV Q (f_X7_execute_118 b2  s0 v)) : gG E m_X7_execute d Q 0 0 (rS v) 118 [] [.int s0] := by
  refine g_pop dX7_execute_118 rfl ?_
  refine g_goto 297 dX7_execute_119 (by decide) ?_
  exact w_X7_execute_297 b2 hb2 hd     v hp hQ
def f_X7_execute_132 (b2 : Nat) (s0 : Int32) (v : gV) : (Int32 ⊕ String) × gV := f_X7_execute_297 b2   v
def p_X7_execute_132 (b2 : Nat) (s0 : Int32) (v : gV) : Prop := p_X7_execute_297 b2    v
set_option maxHeartbeats 4000000 in
set_option maxRecDepth 100000 in
theorem w_X7_execute_132 {E : gE} {d : Nat} {Q : gO → gS → Prop} (b2 : Nat) (hb2 : isBk b2) (hd : 11 ≤ d) (s0 : Int32) (v : gV) (hp : p_X7_execute_132 b2   s0 v) (hQ : gqTIV Q (f_X7_execute_132 b2  s0 v)) : gG E m_X7_execute d Q 0 0 (rS v) 132 [] [.int s0] := by
  refine g_pop dX7_execute_132 rfl ?_
  refine g_goto 297 dX7_execute_133 (by decide) ?_
  exact w_X7_execute_297 b2 hb2 hd     v hp hQ
def f_X7_execute_164 (b2 : Nat) (s0 : Int32) (v : gV) : (Int32 ⊕ String) × gV := f_X7_execute_297 b2   v
def p_X7_execute_164 (b2 : Nat) (s0 : Int32) (v : gV) : Prop := p_X7_execute_297 b2    v
set_option maxHeartbeats 4000000 in
set_option maxRecDepth 100000 in
theorem w_X7_execute_164 {E : gE} {d : Nat} {Q : gO → gS → Prop} (b2 : Nat) (hb2 : isBk b2) (hd : 11 ≤ d) (s0 : Int32) (v : gV) (hp : p_X7_execute_164 b2   s0 v) (hQ : gqTIV Q (f_X7_execute_164 b2  s0 v)) : gG E m_X7_execute d Q 0 0 (rS v) 164 [] [.int s0] := by
  refine g_pop dX7_execute_164 rfl ?_
  refine g_goto 297 dX7_execute_165 (by decide) ?_
  exact w_X7_execute_297 b2 hb2 hd     v hp hQ
def f_X7_execute_178 (b2 : Nat) (s0 : Int32) (v : gV) : (Int32 ⊕ String) × gV := f_X7_execute_297 b2   v
def p_X7_execute_178 (b2 : Nat) (s0 : Int32) (v : gV) : Prop := p_X7_execute_297 b2    v
set_option maxHeartbeats 4000000 in
set_option maxRecDepth 100000 in
theorem w_X7_execute_178 {E : gE} {d : Nat} {Q : gO → gS → Prop} (b2 : Nat) (hb2 : isBk b2) (hd : 11 ≤ d) (s0 : Int32) (v : gV) (hp : p_X7_execute_178 b2   s0 v) (hQ : gqTIV Q (f_X7_execute_178 b2  s0 v)) : gG E m_X7_execute d Q 0 0 (rS v) 178 [] [.int s0] := by
  refine g_pop dX7_execute_178 rfl ?_
  refine g_goto 297 dX7_execute_179 (by decide) ?_
  exact w_X7_execute_297 b2 hb2 hd     v hp hQ
def f_X7_execute_205 (b2 : Nat) (s0 : Int32) (v : gV) : (Int32 ⊕ String) × gV := f_X7_execute_297 b2   v
def p_X7_execute_205 (b2 : Nat) (s0 : Int32) (v : gV) : Prop := p_X7_execute_297 b2    v
set_option maxHeartbeats 4000000 in
set_option maxRecDepth 100000 in
theorem w_X7_execute_205 {E : gE} {d : Nat} {Q : gO → gS → Prop} (b2 : Nat) (hb2 : isBk b2) (hd : 11 ≤ d) (s0 : Int32) (v : gV) (hp : p_X7_execute_205 b2   s0 v) (hQ : gqTIV Q (f_X7_execute_205 b2  s0 v)) : gG E m_X7_execute d Q 0 0 (rS v) 205 [] [.int s0] := by
  refine g_pop dX7_execute_205 rfl ?_
  refine g_goto 297 dX7_execute_206 (by decide) ?_
  exact w_X7_execute_297 b2 hb2 hd     v hp hQ
def f_X7_execute_225 (b2 : Nat) (s0 : Int32) (v : gV) : (Int32 ⊕ String) × gV := f_X7_execute_297 b2   v
def p_X7_execute_225 (b2 : Nat) (s0 : Int32) (v : gV) : Prop := p_X7_execute_297 b2    v
set_option maxHeartbeats 4000000 in
set_option maxRecDepth 100000 in
theorem w_X7_execute_225 {E : gE} {d : Nat} {Q : gO → gS → Prop} (b2 : Nat) (hb2 : isBk b2) (hd : 11 ≤ d) (s0 : Int32) (v : gV) (hp : p_X7_execute_225 b2   s0 v) (hQ : gqTIV Q (f_X7_execute_225 b2  s0 v)) : gG E m_X7_execute d Q 0 0 (rS v) 225 [] [.int s0] := by
  refine g_pop dX7_execute_225 rfl ?_
  refine g_goto 297 dX7_execute_226 (by decide) ?_
  exact w_X7_execute_297 b2 hb2 hd     v hp hQ
def f_X7_execute_239 (b2 : Nat) (s0 : Int32) (v : gV) : (Int32 ⊕ String) × gV := f_X7_execute_297 b2   v
def p_X7_execute_239 (b2 : Nat) (s0 : Int32) (v : gV) : Prop := p_X7_execute_297 b2    v
set_option maxHeartbeats 4000000 in
set_option maxRecDepth 100000 in
theorem w_X7_execute_239 {E : gE} {d : Nat} {Q : gO → gS → Prop} (b2 : Nat) (hb2 : isBk b2) (hd : 11 ≤ d) (s0 : Int32) (v : gV) (hp : p_X7_execute_239 b2   s0 v) (hQ : gqTIV Q (f_X7_execute_239 b2  s0 v)) : gG E m_X7_execute d Q 0 0 (rS v) 239 [] [.int s0] := by
  refine g_pop dX7_execute_239 rfl ?_
  refine g_goto 297 dX7_execute_240 (by decide) ?_
  exact w_X7_execute_297 b2 hb2 hd     v hp hQ
def f_X7_execute_253 (b2 : Nat) (s0 : Int32) (v : gV) : (Int32 ⊕ String) × gV := f_X7_execute_297 b2   v
def p_X7_execute_253 (b2 : Nat) (s0 : Int32) (v : gV) : Prop := p_X7_execute_297 b2    v
set_option maxHeartbeats 4000000 in
set_option maxRecDepth 100000 in
theorem w_X7_execute_253 {E : gE} {d : Nat} {Q : gO → gS → Prop} (b2 : Nat) (hb2 : isBk b2) (hd : 11 ≤ d) (s0 : Int32) (v : gV) (hp : p_X7_execute_253 b2   s0 v) (hQ : gqTIV Q (f_X7_execute_253 b2  s0 v)) : gG E m_X7_execute d Q 0 0 (rS v) 253 [] [.int s0] := by
  refine g_pop dX7_execute_253 rfl ?_
  refine g_goto 297 dX7_execute_254 (by decide) ?_
  exact w_X7_execute_297 b2 hb2 hd     v hp hQ
def f_X7_execute_282 (b2 : Nat) (s0 : Int32) (v : gV) : (Int32 ⊕ String) × gV := f_X7_execute_297 b2   v
def p_X7_execute_282 (b2 : Nat) (s0 : Int32) (v : gV) : Prop := p_X7_execute_297 b2    v
set_option maxHeartbeats 4000000 in
set_option maxRecDepth 100000 in
theorem w_X7_execute_282 {E : gE} {d : Nat} {Q : gO → gS → Prop} (b2 : Nat) (hb2 : isBk b2) (hd : 11 ≤ d) (s0 : Int32) (v : gV) (hp : p_X7_execute_282 b2   s0 v) (hQ : gqTIV Q (f_X7_execute_282 b2  s0 v)) : gG E m_X7_execute d Q 0 0 (rS v) 282 [] [.int s0] := by
  refine g_pop dX7_execute_282 rfl ?_
  refine g_goto 297 dX7_execute_283 (by decide) ?_
  exact w_X7_execute_297 b2 hb2 hd     v hp hQ
def f_X7_execute_296 (b2 : Nat) (s0 : Int32) (v : gV) : (Int32 ⊕ String) × gV := f_X7_execute_297 b2   v
def p_X7_execute_296 (b2 : Nat) (s0 : Int32) (v : gV) : Prop := p_X7_execute_297 b2    v
set_option maxHeartbeats 4000000 in
set_option maxRecDepth 100000 in
theorem w_X7_execute_296 {E : gE} {d : Nat} {Q : gO → gS → Prop} (b2 : Nat) (hb2 : isBk b2) (hd : 11 ≤ d) (s0 : Int32) (v : gV) (hp : p_X7_execute_296 b2   s0 v) (hQ : gqTIV Q (f_X7_execute_296 b2  s0 v)) : gG E m_X7_execute d Q 0 0 (rS v) 296 [] [.int s0] := by
  refine g_pop dX7_execute_296 rfl ?_
  exact w_X7_execute_297 b2 hb2 hd     v hp hQ
def f_X7_execute_35 (b2 : Nat)  (v : gV) : (Int32 ⊕ String) × gV := if (if (nI ((v.1 553 2 - 1).toNatClampNeg)).toNatClampNeg < 9 then nI ((nI ((v.1 553 2 - 1).toNatClampNeg)).toNatClampNeg + 1) else 0) = 1 then (Sum.elim (fun (sr8 : Int32) => f_X7_execute_118 b2  sr8 (f_X1_makePolicy b2 (v.1 556 (0 : Int32).toNatClampNeg) (v.1 556 (1 : Int32).toNatClampNeg) (v.1 556 (2 : Int32).toNatClampNeg) v).2) (fun (e : String) => (Sum.inr e, (f_X1_makePolicy b2 (v.1 556 (0 : Int32).toNatClampNeg) (v.1 556 (1 : Int32).toNatClampNeg) (v.1 556 (2 : Int32).toNatClampNeg) v).2)) (f_X1_makePolicy b2 (v.1 556 (0 : Int32).toNatClampNeg) (v.1 556 (1 : Int32).toNatClampNeg) (v.1 556 (2 : Int32).toNatClampNeg) v).1) else (if (if (nI ((v.1 553 2 - 1).toNatClampNeg)).toNatClampNeg < 9 then nI ((nI ((v.1 553 2 - 1).toNatClampNeg)).toNatClampNeg + 1) else 0) = 2 then (Sum.elim (fun (sr12 : Int32) => f_X7_execute_132 b2  sr12 (f_X1_removePolicy b2 (v.1 556 (0 : Int32).toNatClampNeg) v).2) (fun (e : String) => (Sum.inr e, (f_X1_removePolicy b2 (v.1 556 (0 : Int32).toNatClampNeg) v).2)) (f_X1_removePolicy b2 (v.1 556 (0 : Int32).toNatClampNeg) v).1) else (if (if (nI ((v.1 553 2 - 1).toNatClampNeg)).toNatClampNeg < 9 then nI ((nI ((v.1 553 2 - 1).toNatClampNeg)).toNatClampNeg + 1) else 0) = 3 then (Sum.elim (fun (sr16 : Int32) => f_X7_execute_164 b2  sr16 (f_X1_makeTreaty b2 (v.1 556 (0 : Int32).toNatClampNeg) (v.1 556 (1 : Int32).toNatClampNeg) (v.1 556 (2 : Int32).toNatClampNeg) (v.1 556 (3 : Int32).toNatClampNeg) v).2) (fun (e : String) => (Sum.inr e, (f_X1_makeTreaty b2 (v.1 556 (0 : Int32).toNatClampNeg) (v.1 556 (1 : Int32).toNatClampNeg) (v.1 556 (2 : Int32).toNatClampNeg) (v.1 556 (3 : Int32).toNatClampNeg) v).2)) (f_X1_makeTreaty b2 (v.1 556 (0 : Int32).toNatClampNeg) (v.1 556 (1 : Int32).toNatClampNeg) (v.1 556 (2 : Int32).toNatClampNeg) (v.1 556 (3 : Int32).toNatClampNeg) v).1) else (if (if (nI ((v.1 553 2 - 1).toNatClampNeg)).toNatClampNeg < 9 then nI ((nI ((v.1 553 2 - 1).toNatClampNeg)).toNatClampNeg + 1) else 0) = 4 then (Sum.elim (fun (sr20 : Int32) => f_X7_execute_178 b2  sr20 (f_X1_removeTreaty b2 (v.1 556 (0 : Int32).toNatClampNeg) v).2) (fun (e : String) => (Sum.inr e, (f_X1_removeTreaty b2 (v.1 556 (0 : Int32).toNatClampNeg) v).2)) (f_X1_removeTreaty b2 (v.1 556 (0 : Int32).toNatClampNeg) v).1) else (if (if (nI ((v.1 553 2 - 1).toNatClampNeg)).toNatClampNeg < 9 then nI ((nI ((v.1 553 2 - 1).toNatClampNeg)).toNatClampNeg + 1) else 0) = 5 then (Sum.elim (fun (sr24 : Int32) => f_X7_execute_205 b2  sr24 (f_X1_makeClaim b2 (v.1 556 (0 : Int32).toNatClampNeg) (((v.1 556 (1 : Int32).toNatClampNeg).toUInt32 % 65536).toInt32) (v.1 556 (2 : Int32).toNatClampNeg) v).2) (fun (e : String) => (Sum.inr e, (f_X1_makeClaim b2 (v.1 556 (0 : Int32).toNatClampNeg) (((v.1 556 (1 : Int32).toNatClampNeg).toUInt32 % 65536).toInt32) (v.1 556 (2 : Int32).toNatClampNeg) v).2)) (f_X1_makeClaim b2 (v.1 556 (0 : Int32).toNatClampNeg) (((v.1 556 (1 : Int32).toNatClampNeg).toUInt32 % 65536).toInt32) (v.1 556 (2 : Int32).toNatClampNeg) v).1) else (if (if (nI ((v.1 553 2 - 1).toNatClampNeg)).toNatClampNeg < 9 then nI ((nI ((v.1 553 2 - 1).toNatClampNeg)).toNatClampNeg + 1) else 0) = 6 then (Sum.elim (fun (sr28 : Int32) => f_X7_execute_225 b2  sr28 (f_X1_payPart b2 (v.1 556 (0 : Int32).toNatClampNeg) (v.1 556 (1 : Int32).toNatClampNeg) v).2) (fun (e : String) => (Sum.inr e, (f_X1_payPart b2 (v.1 556 (0 : Int32).toNatClampNeg) (v.1 556 (1 : Int32).toNatClampNeg) v).2)) (f_X1_payPart b2 (v.1 556 (0 : Int32).toNatClampNeg) (v.1 556 (1 : Int32).toNatClampNeg) v).1) else (if (if (nI ((v.1 553 2 - 1).toNatClampNeg)).toNatClampNeg < 9 then nI ((nI ((v.1 553 2 - 1).toNatClampNeg)).toNatClampNeg + 1) else 0) = 7 then (Sum.elim (fun (sr32 : Int32) => f_X7_execute_239 b2  sr32 (f_X1_removePaidClaim b2 (v.1 556 (0 : Int32).toNatClampNeg) v).2) (fun (e : String) => (Sum.inr e, (f_X1_removePaidClaim b2 (v.1 556 (0 : Int32).toNatClampNeg) v).2)) (f_X1_removePaidClaim b2 (v.1 556 (0 : Int32).toNatClampNeg) v).1) else (if (if (nI ((v.1 553 2 - 1).toNatClampNeg)).toNatClampNeg < 9 then nI ((nI ((v.1 553 2 - 1).toNatClampNeg)).toNatClampNeg + 1) else 0) = 8 then (Sum.elim (fun (sr36 : Int32) => f_X7_execute_253 b2  sr36 (f_X1_removeUnpaidClaim b2 (v.1 556 (0 : Int32).toNatClampNeg) v).2) (fun (e : String) => (Sum.inr e, (f_X1_removeUnpaidClaim b2 (v.1 556 (0 : Int32).toNatClampNeg) v).2)) (f_X1_removeUnpaidClaim b2 (v.1 556 (0 : Int32).toNatClampNeg) v).1) else (if (if (nI ((v.1 553 2 - 1).toNatClampNeg)).toNatClampNeg < 9 then nI ((nI ((v.1 553 2 - 1).toNatClampNeg)).toNatClampNeg + 1) else 0) = 9 then (Sum.elim (fun (sr40 : Int32) => f_X7_execute_282 b2  sr40 (f_X4_add b2 (v.1 556 (0 : Int32).toNatClampNeg) (v.1 556 (1 : Int32).toNatClampNeg) (v.1 556 (2 : Int32).toNatClampNeg) v).2) (fun (e : String) => (Sum.inr e, (f_X4_add b2 (v.1 556 (0 : Int32).toNatClampNeg) (v.1 556 (1 : Int32).toNatClampNeg) (v.1 556 (2 : Int32).toNatClampNeg) v).2)) (f_X4_add b2 (v.1 556 (0 : Int32).toNatClampNeg) (v.1 556 (1 : Int32).toNatClampNeg) (v.1 556 (2 : Int32).toNatClampNeg) v).1) else (Sum.elim (fun (sr43 : Int32) => f_X7_execute_296 b2  sr43 (f_X1_advance b2 (v.1 556 (0 : Int32).toNatClampNeg) v).2) (fun (e : String) => (Sum.inr e, (f_X1_advance b2 (v.1 556 (0 : Int32).toNatClampNeg) v).2)) (f_X1_advance b2 (v.1 556 (0 : Int32).toNatClampNeg) v).1)))))))))
def p_X7_execute_35 (b2 : Nat)  (v : gV) : Prop := (vp_in (v.1 553 2 - 1) 10) ∧ ((vp_in (nI ((v.1 553 2 - 1).toNatClampNeg)) 10) ∧ ((((if (nI ((v.1 553 2 - 1).toNatClampNeg)).toNatClampNeg < 9 then nI ((nI ((v.1 553 2 - 1).toNatClampNeg)).toNatClampNeg + 1) else 0) = 1) → ((p_X1_makePolicy b2 (v.1 556 (0 : Int32).toNatClampNeg) (v.1 556 (1 : Int32).toNatClampNeg) (v.1 556 (2 : Int32).toNatClampNeg) v) ∧ (∀ (sr8 : Int32), (f_X1_makePolicy b2 (v.1 556 (0 : Int32).toNatClampNeg) (v.1 556 (1 : Int32).toNatClampNeg) (v.1 556 (2 : Int32).toNatClampNeg) v).1 = Sum.inl sr8 → (p_X7_execute_118 b2   sr8 (f_X1_makePolicy b2 (v.1 556 (0 : Int32).toNatClampNeg) (v.1 556 (1 : Int32).toNatClampNeg) (v.1 556 (2 : Int32).toNatClampNeg) v).2)))) ∧ (¬ ((if (nI ((v.1 553 2 - 1).toNatClampNeg)).toNatClampNeg < 9 then nI ((nI ((v.1 553 2 - 1).toNatClampNeg)).toNatClampNeg + 1) else 0) = 1) → ((((if (nI ((v.1 553 2 - 1).toNatClampNeg)).toNatClampNeg < 9 then nI ((nI ((v.1 553 2 - 1).toNatClampNeg)).toNatClampNeg + 1) else 0) = 2) → ((p_X1_removePolicy b2 (v.1 556 (0 : Int32).toNatClampNeg) v) ∧ (∀ (sr12 : Int32), (f_X1_removePolicy b2 (v.1 556 (0 : Int32).toNatClampNeg) v).1 = Sum.inl sr12 → (p_X7_execute_132 b2   sr12 (f_X1_removePolicy b2 (v.1 556 (0 : Int32).toNatClampNeg) v).2)))) ∧ (¬ ((if (nI ((v.1 553 2 - 1).toNatClampNeg)).toNatClampNeg < 9 then nI ((nI ((v.1 553 2 - 1).toNatClampNeg)).toNatClampNeg + 1) else 0) = 2) → ((((if (nI ((v.1 553 2 - 1).toNatClampNeg)).toNatClampNeg < 9 then nI ((nI ((v.1 553 2 - 1).toNatClampNeg)).toNatClampNeg + 1) else 0) = 3) → ((p_X1_makeTreaty b2 (v.1 556 (0 : Int32).toNatClampNeg) (v.1 556 (1 : Int32).toNatClampNeg) (v.1 556 (2 : Int32).toNatClampNeg) (v.1 556 (3 : Int32).toNatClampNeg) v) ∧ (∀ (sr16 : Int32), (f_X1_makeTreaty b2 (v.1 556 (0 : Int32).toNatClampNeg) (v.1 556 (1 : Int32).toNatClampNeg) (v.1 556 (2 : Int32).toNatClampNeg) (v.1 556 (3 : Int32).toNatClampNeg) v).1 = Sum.inl sr16 → (p_X7_execute_164 b2   sr16 (f_X1_makeTreaty b2 (v.1 556 (0 : Int32).toNatClampNeg) (v.1 556 (1 : Int32).toNatClampNeg) (v.1 556 (2 : Int32).toNatClampNeg) (v.1 556 (3 : Int32).toNatClampNeg) v).2)))) ∧ (¬ ((if (nI ((v.1 553 2 - 1).toNatClampNeg)).toNatClampNeg < 9 then nI ((nI ((v.1 553 2 - 1).toNatClampNeg)).toNatClampNeg + 1) else 0) = 3) → ((((if (nI ((v.1 553 2 - 1).toNatClampNeg)).toNatClampNeg < 9 then nI ((nI ((v.1 553 2 - 1).toNatClampNeg)).toNatClampNeg + 1) else 0) = 4) → ((p_X1_removeTreaty b2 (v.1 556 (0 : Int32).toNatClampNeg) v) ∧ (∀ (sr20 : Int32), (f_X1_removeTreaty b2 (v.1 556 (0 : Int32).toNatClampNeg) v).1 = Sum.inl sr20 → (p_X7_execute_178 b2   sr20 (f_X1_removeTreaty b2 (v.1 556 (0 : Int32).toNatClampNeg) v).2)))) ∧ (¬ ((if (nI ((v.1 553 2 - 1).toNatClampNeg)).toNatClampNeg < 9 then nI ((nI ((v.1 553 2 - 1).toNatClampNeg)).toNatClampNeg + 1) else 0) = 4) → ((((if (nI ((v.1 553 2 - 1).toNatClampNeg)).toNatClampNeg < 9 then nI ((nI ((v.1 553 2 - 1).toNatClampNeg)).toNatClampNeg + 1) else 0) = 5) → ((p_X1_makeClaim b2 (v.1 556 (0 : Int32).toNatClampNeg) (((v.1 556 (1 : Int32).toNatClampNeg).toUInt32 % 65536).toInt32) (v.1 556 (2 : Int32).toNatClampNeg) v) ∧ (∀ (sr24 : Int32), (f_X1_makeClaim b2 (v.1 556 (0 : Int32).toNatClampNeg) (((v.1 556 (1 : Int32).toNatClampNeg).toUInt32 % 65536).toInt32) (v.1 556 (2 : Int32).toNatClampNeg) v).1 = Sum.inl sr24 → (p_X7_execute_205 b2   sr24 (f_X1_makeClaim b2 (v.1 556 (0 : Int32).toNatClampNeg) (((v.1 556 (1 : Int32).toNatClampNeg).toUInt32 % 65536).toInt32) (v.1 556 (2 : Int32).toNatClampNeg) v).2)))) ∧ (¬ ((if (nI ((v.1 553 2 - 1).toNatClampNeg)).toNatClampNeg < 9 then nI ((nI ((v.1 553 2 - 1).toNatClampNeg)).toNatClampNeg + 1) else 0) = 5) → ((((if (nI ((v.1 553 2 - 1).toNatClampNeg)).toNatClampNeg < 9 then nI ((nI ((v.1 553 2 - 1).toNatClampNeg)).toNatClampNeg + 1) else 0) = 6) → ((p_X1_payPart b2 (v.1 556 (0 : Int32).toNatClampNeg) (v.1 556 (1 : Int32).toNatClampNeg) v) ∧ (∀ (sr28 : Int32), (f_X1_payPart b2 (v.1 556 (0 : Int32).toNatClampNeg) (v.1 556 (1 : Int32).toNatClampNeg) v).1 = Sum.inl sr28 → (p_X7_execute_225 b2   sr28 (f_X1_payPart b2 (v.1 556 (0 : Int32).toNatClampNeg) (v.1 556 (1 : Int32).toNatClampNeg) v).2)))) ∧ (¬ ((if (nI ((v.1 553 2 - 1).toNatClampNeg)).toNatClampNeg < 9 then nI ((nI ((v.1 553 2 - 1).toNatClampNeg)).toNatClampNeg + 1) else 0) = 6) → ((((if (nI ((v.1 553 2 - 1).toNatClampNeg)).toNatClampNeg < 9 then nI ((nI ((v.1 553 2 - 1).toNatClampNeg)).toNatClampNeg + 1) else 0) = 7) → ((p_X1_removePaidClaim b2 (v.1 556 (0 : Int32).toNatClampNeg) v) ∧ (∀ (sr32 : Int32), (f_X1_removePaidClaim b2 (v.1 556 (0 : Int32).toNatClampNeg) v).1 = Sum.inl sr32 → (p_X7_execute_239 b2   sr32 (f_X1_removePaidClaim b2 (v.1 556 (0 : Int32).toNatClampNeg) v).2)))) ∧ (¬ ((if (nI ((v.1 553 2 - 1).toNatClampNeg)).toNatClampNeg < 9 then nI ((nI ((v.1 553 2 - 1).toNatClampNeg)).toNatClampNeg + 1) else 0) = 7) → ((((if (nI ((v.1 553 2 - 1).toNatClampNeg)).toNatClampNeg < 9 then nI ((nI ((v.1 553 2 - 1).toNatClampNeg)).toNatClampNeg + 1) else 0) = 8) → ((p_X1_removeUnpaidClaim b2 (v.1 556 (0 : Int32).toNatClampNeg) v) ∧ (∀ (sr36 : Int32), (f_X1_removeUnpaidClaim b2 (v.1 556 (0 : Int32).toNatClampNeg) v).1 = Sum.inl sr36 → (p_X7_execute_253 b2   sr36 (f_X1_removeUnpaidClaim b2 (v.1 556 (0 : Int32).toNatClampNeg) v).2)))) ∧ (¬ ((if (nI ((v.1 553 2 - 1).toNatClampNeg)).toNatClampNeg < 9 then nI ((nI ((v.1 553 2 - 1).toNatClampNeg)).toNatClampNeg + 1) else 0) = 8) → ((((if (nI ((v.1 553 2 - 1).toNatClampNeg)).toNatClampNeg < 9 then nI ((nI ((v.1 553 2 - 1).toNatClampNeg)).toNatClampNeg + 1) else 0) = 9) → ((p_X4_add b2 (v.1 556 (0 : Int32).toNatClampNeg) (v.1 556 (1 : Int32).toNatClampNeg) (v.1 556 (2 : Int32).toNatClampNeg) v) ∧ (∀ (sr40 : Int32), (f_X4_add b2 (v.1 556 (0 : Int32).toNatClampNeg) (v.1 556 (1 : Int32).toNatClampNeg) (v.1 556 (2 : Int32).toNatClampNeg) v).1 = Sum.inl sr40 → (p_X7_execute_282 b2   sr40 (f_X4_add b2 (v.1 556 (0 : Int32).toNatClampNeg) (v.1 556 (1 : Int32).toNatClampNeg) (v.1 556 (2 : Int32).toNatClampNeg) v).2)))) ∧ (¬ ((if (nI ((v.1 553 2 - 1).toNatClampNeg)).toNatClampNeg < 9 then nI ((nI ((v.1 553 2 - 1).toNatClampNeg)).toNatClampNeg + 1) else 0) = 9) → ((p_X1_advance b2 (v.1 556 (0 : Int32).toNatClampNeg) v) ∧ (∀ (sr43 : Int32), (f_X1_advance b2 (v.1 556 (0 : Int32).toNatClampNeg) v).1 = Sum.inl sr43 → (p_X7_execute_296 b2   sr43 (f_X1_advance b2 (v.1 556 (0 : Int32).toNatClampNeg) v).2))))))))))))))))))))))
set_option maxHeartbeats 4000000 in
set_option maxRecDepth 100000 in
theorem w_X7_execute_35 {E : gE} {d : Nat} {Q : gO → gS → Prop} (b2 : Nat) (hb2 : isBk b2) (hd : 11 ≤ d)  (v : gV) (hp : p_X7_execute_35 b2    v) (hQ : gqTIV Q (f_X7_execute_35 b2   v)) : gG E m_X7_execute d Q 5 30 (rS v) 35 [(0, .ref (gX E + 553)), (1, .ref (gX E + b2))] [] := by
  refine g_gets (.ref (gva E 31)) (fun s h => gvb_sw h) lk_X7_128 rfl dX7_execute_35 ?_
  refine g_aload_n 0 dX7_execute_38 rfl ?_
  obtain ⟨h4, hp⟩ := hp
  refine r_getV f_X7_71_X7 rfl h4 dX7_execute_39 ?_
  refine r_ord wo_X7_133 rfl (vp_in_nat h4).2 rfl (Nat.le_of_ble_eq_true rfl) (by omega) dX7_execute_42 ?_
  obtain ⟨h5, hp⟩ := hp
  refine g_ti (.int (if (nI ((v.1 553 2 - 1).toNatClampNeg)).toNatClampNeg < 9 then nI ((nI ((v.1 553 2 - 1).toNatClampNeg)).toNatClampNeg + 1) else 0)) (fun s h => gvb_swT h) h5 rfl dX7_execute_45 ?_
  by_cases h6 : (if (nI ((v.1 553 2 - 1).toNatClampNeg)).toNatClampNeg < 9 then nI ((nI ((v.1 553 2 - 1).toNatClampNeg)).toNatClampNeg + 1) else 0) = 1
  · have hQ := qp (P := gqTIV Q) h6 hQ
    have hp := hp.1 h6
    refine g_tableIn 96 dX7_execute_46 (by rw [h6]; decide) (by rw [h6]; decide) (by rw [h6]; rfl) (by decide) ?_
    refine g_aload_n 1 dX7_execute_96 rfl ?_
    refine g_aload_n 0 dX7_execute_97 rfl ?_
    refine r_get (.ref (gX E + 556)) f_X7_18_X7 rfl (by decide : kd 553 = (0, 5)) (show 553 < 572 by decide) dX7_execute_98 (fun _ => rfl) ?_
    refine g_iconst dX7_execute_101 (0 : Int32) (by decide) ?_
    refine g_iald (by decide : kd 556 = (1, 4)) (show 556 < 572 by decide) (show ¬ (_ ∨ _) by decide) dX7_execute_102 ?_
    refine g_aload_n 0 dX7_execute_103 rfl ?_
    refine r_get (.ref (gX E + 556)) f_X7_18_X7 rfl (by decide : kd 553 = (0, 5)) (show 553 < 572 by decide) dX7_execute_104 (fun _ => rfl) ?_
    refine g_iconst dX7_execute_107 (1 : Int32) (by decide) ?_
    refine g_iald (by decide : kd 556 = (1, 4)) (show 556 < 572 by decide) (show ¬ (_ ∨ _) by decide) dX7_execute_108 ?_
    refine g_aload_n 0 dX7_execute_109 rfl ?_
    refine r_get (.ref (gX E + 556)) f_X7_18_X7 rfl (by decide : kd 553 = (0, 5)) (show 553 < 572 by decide) dX7_execute_110 (fun _ => rfl) ?_
    refine g_iconst dX7_execute_113 (2 : Int32) (by decide) ?_
    refine g_iald (by decide : kd 556 = (1, 4)) (show 556 < 572 by decide) (show ¬ (_ ∨ _) by decide) dX7_execute_114 ?_
    obtain ⟨h7, hp⟩ := hp
    refine g_callV (rest := []) s_X7_136_X1 rfl (c_X1_makePolicy (E := E) (d := d - 1) b2 hb2 (by omega) (v.1 556 (0 : Int32).toNatClampNeg) (v.1 556 (1 : Int32).toNatClampNeg) (v.1 556 (2 : Int32).toNatClampNeg) v h7) (kbz hb2) (lt_b0 hb2) rfl rfl (Nat.le_of_ble_eq_true rfl) (by omega) (by decide) (by decide) dX7_execute_115 (adTI (fun sr8 h9 => ?_)) (axTI (fun e h9 => g_outs rfl rfl (qe (P := gqTIV Q) h9 hQ)))
    have hQ := ql (P := gqTIV Q) h9 hQ
    have hp := hp sr8 h9
    refine g_room (k' := 0) (n' := 0) (by decide) (by decide) ?_
    refine g_lv (lv' := []) [] rfl ?_
    exact w_X7_execute_118 b2 hb2 hd    sr8 (f_X1_makePolicy b2 (v.1 556 (0 : Int32).toNatClampNeg) (v.1 556 (1 : Int32).toNatClampNeg) (v.1 556 (2 : Int32).toNatClampNeg) v).2 hp hQ
  have hQ := qn (P := gqTIV Q) h6 hQ
  have hp := hp.2 h6
  by_cases h10 : (if (nI ((v.1 553 2 - 1).toNatClampNeg)).toNatClampNeg < 9 then nI ((nI ((v.1 553 2 - 1).toNatClampNeg)).toNatClampNeg + 1) else 0) = 2
  · have hQ := qp (P := gqTIV Q) h10 hQ
    have hp := hp.1 h10
    refine g_tableIn 122 dX7_execute_46 (by rw [h10]; decide) (by rw [h10]; decide) (by rw [h10]; rfl) (by decide) ?_
    refine g_aload_n 1 dX7_execute_122 rfl ?_
    refine g_aload_n 0 dX7_execute_123 rfl ?_
    refine r_get (.ref (gX E + 556)) f_X7_18_X7 rfl (by decide : kd 553 = (0, 5)) (show 553 < 572 by decide) dX7_execute_124 (fun _ => rfl) ?_
    refine g_iconst dX7_execute_127 (0 : Int32) (by decide) ?_
    refine g_iald (by decide : kd 556 = (1, 4)) (show 556 < 572 by decide) (show ¬ (_ ∨ _) by decide) dX7_execute_128 ?_
    obtain ⟨h11, hp⟩ := hp
    refine g_callV (rest := []) s_X7_140_X1 rfl (c_X1_removePolicy (E := E) (d := d - 1) b2 hb2 (by omega) (v.1 556 (0 : Int32).toNatClampNeg) v h11) (kbz hb2) (lt_b0 hb2) rfl rfl (Nat.le_of_ble_eq_true rfl) (by omega) (by decide) (by decide) dX7_execute_129 (adTI (fun sr12 h13 => ?_)) (axTI (fun e h13 => g_outs rfl rfl (qe (P := gqTIV Q) h13 hQ)))
    have hQ := ql (P := gqTIV Q) h13 hQ
    have hp := hp sr12 h13
    refine g_room (k' := 0) (n' := 0) (by decide) (by decide) ?_
    refine g_lv (lv' := []) [] rfl ?_
    exact w_X7_execute_132 b2 hb2 hd    sr12 (f_X1_removePolicy b2 (v.1 556 (0 : Int32).toNatClampNeg) v).2 hp hQ
  have hQ := qn (P := gqTIV Q) h10 hQ
  have hp := hp.2 h10
  by_cases h14 : (if (nI ((v.1 553 2 - 1).toNatClampNeg)).toNatClampNeg < 9 then nI ((nI ((v.1 553 2 - 1).toNatClampNeg)).toNatClampNeg + 1) else 0) = 3
  · have hQ := qp (P := gqTIV Q) h14 hQ
    have hp := hp.1 h14
    refine g_tableIn 136 dX7_execute_46 (by rw [h14]; decide) (by rw [h14]; decide) (by rw [h14]; rfl) (by decide) ?_
    refine g_aload_n 1 dX7_execute_136 rfl ?_
    refine g_aload_n 0 dX7_execute_137 rfl ?_
    refine r_get (.ref (gX E + 556)) f_X7_18_X7 rfl (by decide : kd 553 = (0, 5)) (show 553 < 572 by decide) dX7_execute_138 (fun _ => rfl) ?_
    refine g_iconst dX7_execute_141 (0 : Int32) (by decide) ?_
    refine g_iald (by decide : kd 556 = (1, 4)) (show 556 < 572 by decide) (show ¬ (_ ∨ _) by decide) dX7_execute_142 ?_
    refine g_aload_n 0 dX7_execute_143 rfl ?_
    refine r_get (.ref (gX E + 556)) f_X7_18_X7 rfl (by decide : kd 553 = (0, 5)) (show 553 < 572 by decide) dX7_execute_144 (fun _ => rfl) ?_
    refine g_iconst dX7_execute_147 (1 : Int32) (by decide) ?_
    refine g_iald (by decide : kd 556 = (1, 4)) (show 556 < 572 by decide) (show ¬ (_ ∨ _) by decide) dX7_execute_148 ?_
    refine g_aload_n 0 dX7_execute_149 rfl ?_
    refine r_get (.ref (gX E + 556)) f_X7_18_X7 rfl (by decide : kd 553 = (0, 5)) (show 553 < 572 by decide) dX7_execute_150 (fun _ => rfl) ?_
    refine g_iconst dX7_execute_153 (2 : Int32) (by decide) ?_
    refine g_iald (by decide : kd 556 = (1, 4)) (show 556 < 572 by decide) (show ¬ (_ ∨ _) by decide) dX7_execute_154 ?_
    refine g_aload_n 0 dX7_execute_155 rfl ?_
    refine r_get (.ref (gX E + 556)) f_X7_18_X7 rfl (by decide : kd 553 = (0, 5)) (show 553 < 572 by decide) dX7_execute_156 (fun _ => rfl) ?_
    refine g_iconst dX7_execute_159 (3 : Int32) (by decide) ?_
    refine g_iald (by decide : kd 556 = (1, 4)) (show 556 < 572 by decide) (show ¬ (_ ∨ _) by decide) dX7_execute_160 ?_
    obtain ⟨h15, hp⟩ := hp
    refine g_callV (rest := []) s_X7_144_X1 rfl (c_X1_makeTreaty (E := E) (d := d - 1) b2 hb2 (by omega) (v.1 556 (0 : Int32).toNatClampNeg) (v.1 556 (1 : Int32).toNatClampNeg) (v.1 556 (2 : Int32).toNatClampNeg) (v.1 556 (3 : Int32).toNatClampNeg) v h15) (kbz hb2) (lt_b0 hb2) rfl rfl (Nat.le_of_ble_eq_true rfl) (by omega) (by decide) (by decide) dX7_execute_161 (adTI (fun sr16 h17 => ?_)) (axTI (fun e h17 => g_outs rfl rfl (qe (P := gqTIV Q) h17 hQ)))
    have hQ := ql (P := gqTIV Q) h17 hQ
    have hp := hp sr16 h17
    refine g_lv (lv' := []) [] rfl ?_
    exact w_X7_execute_164 b2 hb2 hd    sr16 (f_X1_makeTreaty b2 (v.1 556 (0 : Int32).toNatClampNeg) (v.1 556 (1 : Int32).toNatClampNeg) (v.1 556 (2 : Int32).toNatClampNeg) (v.1 556 (3 : Int32).toNatClampNeg) v).2 hp hQ
  have hQ := qn (P := gqTIV Q) h14 hQ
  have hp := hp.2 h14
  by_cases h18 : (if (nI ((v.1 553 2 - 1).toNatClampNeg)).toNatClampNeg < 9 then nI ((nI ((v.1 553 2 - 1).toNatClampNeg)).toNatClampNeg + 1) else 0) = 4
  · have hQ := qp (P := gqTIV Q) h18 hQ
    have hp := hp.1 h18
    refine g_tableIn 168 dX7_execute_46 (by rw [h18]; decide) (by rw [h18]; decide) (by rw [h18]; rfl) (by decide) ?_
    refine g_aload_n 1 dX7_execute_168 rfl ?_
    refine g_aload_n 0 dX7_execute_169 rfl ?_
    refine r_get (.ref (gX E + 556)) f_X7_18_X7 rfl (by decide : kd 553 = (0, 5)) (show 553 < 572 by decide) dX7_execute_170 (fun _ => rfl) ?_
    refine g_iconst dX7_execute_173 (0 : Int32) (by decide) ?_
    refine g_iald (by decide : kd 556 = (1, 4)) (show 556 < 572 by decide) (show ¬ (_ ∨ _) by decide) dX7_execute_174 ?_
    obtain ⟨h19, hp⟩ := hp
    refine g_callV (rest := []) s_X7_148_X1 rfl (c_X1_removeTreaty (E := E) (d := d - 1) b2 hb2 (by omega) (v.1 556 (0 : Int32).toNatClampNeg) v h19) (kbz hb2) (lt_b0 hb2) rfl rfl (Nat.le_of_ble_eq_true rfl) (by omega) (by decide) (by decide) dX7_execute_175 (adTI (fun sr20 h21 => ?_)) (axTI (fun e h21 => g_outs rfl rfl (qe (P := gqTIV Q) h21 hQ)))
    have hQ := ql (P := gqTIV Q) h21 hQ
    have hp := hp sr20 h21
    refine g_room (k' := 0) (n' := 0) (by decide) (by decide) ?_
    refine g_lv (lv' := []) [] rfl ?_
    exact w_X7_execute_178 b2 hb2 hd    sr20 (f_X1_removeTreaty b2 (v.1 556 (0 : Int32).toNatClampNeg) v).2 hp hQ
  have hQ := qn (P := gqTIV Q) h18 hQ
  have hp := hp.2 h18
  by_cases h22 : (if (nI ((v.1 553 2 - 1).toNatClampNeg)).toNatClampNeg < 9 then nI ((nI ((v.1 553 2 - 1).toNatClampNeg)).toNatClampNeg + 1) else 0) = 5
  · have hQ := qp (P := gqTIV Q) h22 hQ
    have hp := hp.1 h22
    refine g_tableIn 182 dX7_execute_46 (by rw [h22]; decide) (by rw [h22]; decide) (by rw [h22]; rfl) (by decide) ?_
    refine g_aload_n 1 dX7_execute_182 rfl ?_
    refine g_aload_n 0 dX7_execute_183 rfl ?_
    refine r_get (.ref (gX E + 556)) f_X7_18_X7 rfl (by decide : kd 553 = (0, 5)) (show 553 < 572 by decide) dX7_execute_184 (fun _ => rfl) ?_
    refine g_iconst dX7_execute_187 (0 : Int32) (by decide) ?_
    refine g_iald (by decide : kd 556 = (1, 4)) (show 556 < 572 by decide) (show ¬ (_ ∨ _) by decide) dX7_execute_188 ?_
    refine g_aload_n 0 dX7_execute_189 rfl ?_
    refine r_get (.ref (gX E + 556)) f_X7_18_X7 rfl (by decide : kd 553 = (0, 5)) (show 553 < 572 by decide) dX7_execute_190 (fun _ => rfl) ?_
    refine g_iconst dX7_execute_193 (1 : Int32) (by decide) ?_
    refine g_iald (by decide : kd 556 = (1, 4)) (show 556 < 572 by decide) (show ¬ (_ ∨ _) by decide) dX7_execute_194 ?_
    refine g_i2c dX7_execute_195 ?_
    refine g_aload_n 0 dX7_execute_196 rfl ?_
    refine r_get (.ref (gX E + 556)) f_X7_18_X7 rfl (by decide : kd 553 = (0, 5)) (show 553 < 572 by decide) dX7_execute_197 (fun _ => rfl) ?_
    refine g_iconst dX7_execute_200 (2 : Int32) (by decide) ?_
    refine g_iald (by decide : kd 556 = (1, 4)) (show 556 < 572 by decide) (show ¬ (_ ∨ _) by decide) dX7_execute_201 ?_
    obtain ⟨h23, hp⟩ := hp
    refine g_callV (rest := []) s_X7_151_X1 rfl (c_X1_makeClaim (E := E) (d := d - 1) b2 hb2 (by omega) (v.1 556 (0 : Int32).toNatClampNeg) (((v.1 556 (1 : Int32).toNatClampNeg).toUInt32 % 65536).toInt32) (v.1 556 (2 : Int32).toNatClampNeg) v h23) (kbz hb2) (lt_b0 hb2) rfl rfl (Nat.le_of_ble_eq_true rfl) (by omega) (by decide) (by decide) dX7_execute_202 (adTI (fun sr24 h25 => ?_)) (axTI (fun e h25 => g_outs rfl rfl (qe (P := gqTIV Q) h25 hQ)))
    have hQ := ql (P := gqTIV Q) h25 hQ
    have hp := hp sr24 h25
    refine g_room (k' := 0) (n' := 0) (by decide) (by decide) ?_
    refine g_lv (lv' := []) [] rfl ?_
    exact w_X7_execute_205 b2 hb2 hd    sr24 (f_X1_makeClaim b2 (v.1 556 (0 : Int32).toNatClampNeg) (((v.1 556 (1 : Int32).toNatClampNeg).toUInt32 % 65536).toInt32) (v.1 556 (2 : Int32).toNatClampNeg) v).2 hp hQ
  have hQ := qn (P := gqTIV Q) h22 hQ
  have hp := hp.2 h22
  by_cases h26 : (if (nI ((v.1 553 2 - 1).toNatClampNeg)).toNatClampNeg < 9 then nI ((nI ((v.1 553 2 - 1).toNatClampNeg)).toNatClampNeg + 1) else 0) = 6
  · have hQ := qp (P := gqTIV Q) h26 hQ
    have hp := hp.1 h26
    refine g_tableIn 209 dX7_execute_46 (by rw [h26]; decide) (by rw [h26]; decide) (by rw [h26]; rfl) (by decide) ?_
    refine g_aload_n 1 dX7_execute_209 rfl ?_
    refine g_aload_n 0 dX7_execute_210 rfl ?_
    refine r_get (.ref (gX E + 556)) f_X7_18_X7 rfl (by decide : kd 553 = (0, 5)) (show 553 < 572 by decide) dX7_execute_211 (fun _ => rfl) ?_
    refine g_iconst dX7_execute_214 (0 : Int32) (by decide) ?_
    refine g_iald (by decide : kd 556 = (1, 4)) (show 556 < 572 by decide) (show ¬ (_ ∨ _) by decide) dX7_execute_215 ?_
    refine g_aload_n 0 dX7_execute_216 rfl ?_
    refine r_get (.ref (gX E + 556)) f_X7_18_X7 rfl (by decide : kd 553 = (0, 5)) (show 553 < 572 by decide) dX7_execute_217 (fun _ => rfl) ?_
    refine g_iconst dX7_execute_220 (1 : Int32) (by decide) ?_
    refine g_iald (by decide : kd 556 = (1, 4)) (show 556 < 572 by decide) (show ¬ (_ ∨ _) by decide) dX7_execute_221 ?_
    obtain ⟨h27, hp⟩ := hp
    refine g_callV (rest := []) s_X7_155_X1 rfl (c_X1_payPart (E := E) (d := d - 1) b2 hb2 (by omega) (v.1 556 (0 : Int32).toNatClampNeg) (v.1 556 (1 : Int32).toNatClampNeg) v h27) (kbz hb2) (lt_b0 hb2) rfl rfl (Nat.le_of_ble_eq_true rfl) (by omega) (by decide) (by decide) dX7_execute_222 (adTI (fun sr28 h29 => ?_)) (axTI (fun e h29 => g_outs rfl rfl (qe (P := gqTIV Q) h29 hQ)))
    have hQ := ql (P := gqTIV Q) h29 hQ
    have hp := hp sr28 h29
    refine g_room (k' := 0) (n' := 0) (by decide) (by decide) ?_
    refine g_lv (lv' := []) [] rfl ?_
    exact w_X7_execute_225 b2 hb2 hd    sr28 (f_X1_payPart b2 (v.1 556 (0 : Int32).toNatClampNeg) (v.1 556 (1 : Int32).toNatClampNeg) v).2 hp hQ
  have hQ := qn (P := gqTIV Q) h26 hQ
  have hp := hp.2 h26
  by_cases h30 : (if (nI ((v.1 553 2 - 1).toNatClampNeg)).toNatClampNeg < 9 then nI ((nI ((v.1 553 2 - 1).toNatClampNeg)).toNatClampNeg + 1) else 0) = 7
  · have hQ := qp (P := gqTIV Q) h30 hQ
    have hp := hp.1 h30
    refine g_tableIn 229 dX7_execute_46 (by rw [h30]; decide) (by rw [h30]; decide) (by rw [h30]; rfl) (by decide) ?_
    refine g_aload_n 1 dX7_execute_229 rfl ?_
    refine g_aload_n 0 dX7_execute_230 rfl ?_
    refine r_get (.ref (gX E + 556)) f_X7_18_X7 rfl (by decide : kd 553 = (0, 5)) (show 553 < 572 by decide) dX7_execute_231 (fun _ => rfl) ?_
    refine g_iconst dX7_execute_234 (0 : Int32) (by decide) ?_
    refine g_iald (by decide : kd 556 = (1, 4)) (show 556 < 572 by decide) (show ¬ (_ ∨ _) by decide) dX7_execute_235 ?_
    obtain ⟨h31, hp⟩ := hp
    refine g_callV (rest := []) s_X7_158_X1 rfl (c_X1_removePaidClaim (E := E) (d := d - 1) b2 hb2 (by omega) (v.1 556 (0 : Int32).toNatClampNeg) v h31) (kbz hb2) (lt_b0 hb2) rfl rfl (Nat.le_of_ble_eq_true rfl) (by omega) (by decide) (by decide) dX7_execute_236 (adTI (fun sr32 h33 => ?_)) (axTI (fun e h33 => g_outs rfl rfl (qe (P := gqTIV Q) h33 hQ)))
    have hQ := ql (P := gqTIV Q) h33 hQ
    have hp := hp sr32 h33
    refine g_room (k' := 0) (n' := 0) (by decide) (by decide) ?_
    refine g_lv (lv' := []) [] rfl ?_
    exact w_X7_execute_239 b2 hb2 hd    sr32 (f_X1_removePaidClaim b2 (v.1 556 (0 : Int32).toNatClampNeg) v).2 hp hQ
  have hQ := qn (P := gqTIV Q) h30 hQ
  have hp := hp.2 h30
  by_cases h34 : (if (nI ((v.1 553 2 - 1).toNatClampNeg)).toNatClampNeg < 9 then nI ((nI ((v.1 553 2 - 1).toNatClampNeg)).toNatClampNeg + 1) else 0) = 8
  · have hQ := qp (P := gqTIV Q) h34 hQ
    have hp := hp.1 h34
    refine g_tableIn 243 dX7_execute_46 (by rw [h34]; decide) (by rw [h34]; decide) (by rw [h34]; rfl) (by decide) ?_
    refine g_aload_n 1 dX7_execute_243 rfl ?_
    refine g_aload_n 0 dX7_execute_244 rfl ?_
    refine r_get (.ref (gX E + 556)) f_X7_18_X7 rfl (by decide : kd 553 = (0, 5)) (show 553 < 572 by decide) dX7_execute_245 (fun _ => rfl) ?_
    refine g_iconst dX7_execute_248 (0 : Int32) (by decide) ?_
    refine g_iald (by decide : kd 556 = (1, 4)) (show 556 < 572 by decide) (show ¬ (_ ∨ _) by decide) dX7_execute_249 ?_
    obtain ⟨h35, hp⟩ := hp
    refine g_callV (rest := []) s_X7_161_X1 rfl (c_X1_removeUnpaidClaim (E := E) (d := d - 1) b2 hb2 (by omega) (v.1 556 (0 : Int32).toNatClampNeg) v h35) (kbz hb2) (lt_b0 hb2) rfl rfl (Nat.le_of_ble_eq_true rfl) (by omega) (by decide) (by decide) dX7_execute_250 (adTI (fun sr36 h37 => ?_)) (axTI (fun e h37 => g_outs rfl rfl (qe (P := gqTIV Q) h37 hQ)))
    have hQ := ql (P := gqTIV Q) h37 hQ
    have hp := hp sr36 h37
    refine g_room (k' := 0) (n' := 0) (by decide) (by decide) ?_
    refine g_lv (lv' := []) [] rfl ?_
    exact w_X7_execute_253 b2 hb2 hd    sr36 (f_X1_removeUnpaidClaim b2 (v.1 556 (0 : Int32).toNatClampNeg) v).2 hp hQ
  have hQ := qn (P := gqTIV Q) h34 hQ
  have hp := hp.2 h34
  by_cases h38 : (if (nI ((v.1 553 2 - 1).toNatClampNeg)).toNatClampNeg < 9 then nI ((nI ((v.1 553 2 - 1).toNatClampNeg)).toNatClampNeg + 1) else 0) = 9
  · have hQ := qp (P := gqTIV Q) h38 hQ
    have hp := hp.1 h38
    refine g_tableIn 257 dX7_execute_46 (by rw [h38]; decide) (by rw [h38]; decide) (by rw [h38]; rfl) (by decide) ?_
    refine g_aload_n 1 dX7_execute_257 rfl ?_
    refine r_get (.ref (gX E + (b2 + 45))) f_X7_164_X1 rfl (kbz hb2) (lt_b0 hb2) dX7_execute_258 (fun _ => rfl) ?_
    refine g_aload_n 0 dX7_execute_261 rfl ?_
    refine r_get (.ref (gX E + 556)) f_X7_18_X7 rfl (by decide : kd 553 = (0, 5)) (show 553 < 572 by decide) dX7_execute_262 (fun _ => rfl) ?_
    refine g_iconst dX7_execute_265 (0 : Int32) (by decide) ?_
    refine g_iald (by decide : kd 556 = (1, 4)) (show 556 < 572 by decide) (show ¬ (_ ∨ _) by decide) dX7_execute_266 ?_
    refine g_aload_n 0 dX7_execute_267 rfl ?_
    refine r_get (.ref (gX E + 556)) f_X7_18_X7 rfl (by decide : kd 553 = (0, 5)) (show 553 < 572 by decide) dX7_execute_268 (fun _ => rfl) ?_
    refine g_iconst dX7_execute_271 (1 : Int32) (by decide) ?_
    refine g_iald (by decide : kd 556 = (1, 4)) (show 556 < 572 by decide) (show ¬ (_ ∨ _) by decide) dX7_execute_272 ?_
    refine g_aload_n 0 dX7_execute_273 rfl ?_
    refine r_get (.ref (gX E + 556)) f_X7_18_X7 rfl (by decide : kd 553 = (0, 5)) (show 553 < 572 by decide) dX7_execute_274 (fun _ => rfl) ?_
    refine g_iconst dX7_execute_277 (2 : Int32) (by decide) ?_
    refine g_iald (by decide : kd 556 = (1, 4)) (show 556 < 572 by decide) (show ¬ (_ ∨ _) by decide) dX7_execute_278 ?_
    obtain ⟨h39, hp⟩ := hp
    refine g_callV (rest := []) s_X7_168_X4 rfl (c_X4_add (E := E) (d := d - 1) b2 hb2 (by omega) (v.1 556 (0 : Int32).toNatClampNeg) (v.1 556 (1 : Int32).toNatClampNeg) (v.1 556 (2 : Int32).toNatClampNeg) v h39) (kb_45 hb2) (lt_b hb2 (by decide)) rfl rfl (Nat.le_of_ble_eq_true rfl) (by omega) (by decide) (by decide) dX7_execute_279 (adTI (fun sr40 h41 => ?_)) (axTI (fun e h41 => g_outs rfl rfl (qe (P := gqTIV Q) h41 hQ)))
    have hQ := ql (P := gqTIV Q) h41 hQ
    have hp := hp sr40 h41
    refine g_room (k' := 0) (n' := 0) (by decide) (by decide) ?_
    refine g_lv (lv' := []) [] rfl ?_
    exact w_X7_execute_282 b2 hb2 hd    sr40 (f_X4_add b2 (v.1 556 (0 : Int32).toNatClampNeg) (v.1 556 (1 : Int32).toNatClampNeg) (v.1 556 (2 : Int32).toNatClampNeg) v).2 hp hQ
  have hQ := qn (P := gqTIV Q) h38 hQ
  have hp := hp.2 h38
  refine g_tableOut 286 dX7_execute_46 (gsw_out [1, 2, 3, 4, 5, 6, 7, 8, 9] (if (nI ((v.1 553 2 - 1).toNatClampNeg)).toNatClampNeg < 9 then nI ((nI ((v.1 553 2 - 1).toNatClampNeg)).toNatClampNeg + 1) else 0) (by decide) ⟨h6, h10, h14, h18, h22, h26, h30, h34, h38, trivial⟩) (by decide) ?_
  refine g_aload_n 1 dX7_execute_286 rfl ?_
  refine g_aload_n 0 dX7_execute_287 rfl ?_
  refine r_get (.ref (gX E + 556)) f_X7_18_X7 rfl (by decide : kd 553 = (0, 5)) (show 553 < 572 by decide) dX7_execute_288 (fun _ => rfl) ?_
  refine g_iconst dX7_execute_291 (0 : Int32) (by decide) ?_
  refine g_iald (by decide : kd 556 = (1, 4)) (show 556 < 572 by decide) (show ¬ (_ ∨ _) by decide) dX7_execute_292 ?_
  obtain ⟨h42, hp⟩ := hp
  refine g_callV (rest := []) s_X7_173_X1 rfl (c_X1_advance (E := E) (d := d - 1) b2 hb2 (by omega) (v.1 556 (0 : Int32).toNatClampNeg) v h42) (kbz hb2) (lt_b0 hb2) rfl rfl (Nat.le_of_ble_eq_true rfl) (by omega) (by decide) (by decide) dX7_execute_293 (adTI (fun sr43 h44 => ?_)) (axTI (fun e h44 => g_outs rfl rfl (qe (P := gqTIV Q) h44 hQ)))
  have hQ := ql (P := gqTIV Q) h44 hQ
  have hp := hp sr43 h44
  refine g_room (k' := 0) (n' := 0) (by decide) (by decide) ?_
  refine g_lv (lv' := []) [] rfl ?_
  exact w_X7_execute_296 b2 hb2 hd    sr43 (f_X1_advance b2 (v.1 556 (0 : Int32).toNatClampNeg) v).2 hp hQ
def f_X7_execute_33 (b2 : Nat)  (v : gV) : (Int32 ⊕ String) × gV := (Sum.inl (0 : Int32), v)
def p_X7_execute_33 (b2 : Nat)  (v : gV) : Prop := True
set_option maxHeartbeats 4000000 in
set_option maxRecDepth 100000 in
theorem w_X7_execute_33 {E : gE} {d : Nat} {Q : gO → gS → Prop} (b2 : Nat) (hb2 : isBk b2) (hd : 11 ≤ d)  (v : gV) (hp : p_X7_execute_33 b2    v) (hQ : gqTIV Q (f_X7_execute_33 b2   v)) : gG E m_X7_execute d Q 0 0 (rS v) 33 [] [] := by
  refine g_iconst dX7_execute_33 (0 : Int32) (by decide) ?_
  exact g_zret rfl rfl dX7_execute_34 hQ
def f_X7_execute_0 (b2 : Nat)  (v : gV) : (Int32 ⊕ String) × gV := if ((v.1 553 2 - 1).toNatClampNeg) = 3 then (if (v.1 556 (0 : Int32).toNatClampNeg) < (v.1 (b2 + 30) 6) then (f_X7_execute_35 b2   v) else (f_X7_execute_33 b2   v)) else (f_X7_execute_35 b2   v)
def p_X7_execute_0 (b2 : Nat)  (v : gV) : Prop := (vp_in (v.1 553 2 - 1) 10) ∧ ((vp_in (v.1 553 2 - 1) 10) ∧ (((((v.1 553 2 - 1).toNatClampNeg) = 3) → ((((v.1 556 (0 : Int32).toNatClampNeg) < (v.1 (b2 + 30) 6)) → (p_X7_execute_35 b2    v)) ∧ (¬ ((v.1 556 (0 : Int32).toNatClampNeg) < (v.1 (b2 + 30) 6)) → (p_X7_execute_33 b2    v)))) ∧ (¬ (((v.1 553 2 - 1).toNatClampNeg) = 3) → (p_X7_execute_35 b2    v))))
set_option maxHeartbeats 4000000 in
set_option maxRecDepth 100000 in
theorem w_X7_execute_0 {E : gE} {d : Nat} {Q : gO → gS → Prop} (b2 : Nat) (hb2 : isBk b2) (hd : 11 ≤ d)  (v : gV) (hp : p_X7_execute_0 b2    v) (hQ : gqTIV Q (f_X7_execute_0 b2   v)) : gG E m_X7_execute d Q 5 30 (rS v) 0 [(0, .ref (gX E + 553)), (1, .ref (gX E + b2))] [] := by
  refine g_aload_n 0 dX7_execute_0 rfl ?_
  obtain ⟨h1, hp⟩ := hp
  refine r_getV f_X7_71_X7 rfl h1 dX7_execute_1 ?_
  refine g_ifnull dX7_execute_4 ?_
  refine g_aload_n 0 dX7_execute_7 rfl ?_
  obtain ⟨h2, hp⟩ := hp
  refine r_getV f_X7_71_X7 rfl h2 dX7_execute_8 ?_
  refine g_gets (.ref (gva E 3)) (fun s h => gvb_void h) lk_X7_114 rfl dX7_execute_11 ?_
  refine g_acmpV 35 (vp_in_nat h2).2 (show 3 < 10 by decide) dX7_execute_14 (by decide) (fun h3 => ?_) (fun h3 => ?_)
  · have hQ := qn (P := gqTIV Q) h3 hQ
    have hp := hp.2 h3
    exact w_X7_execute_35 b2 hb2 hd     v hp hQ
  · have hQ := qp (P := gqTIV Q) h3 hQ
    have hp := hp.1 h3
    refine g_aload_n 0 dX7_execute_17 rfl ?_
    refine r_get (.ref (gX E + 556)) f_X7_18_X7 rfl (by decide : kd 553 = (0, 5)) (show 553 < 572 by decide) dX7_execute_18 (fun _ => rfl) ?_
    refine g_iconst dX7_execute_21 (0 : Int32) (by decide) ?_
    refine g_iald (by decide : kd 556 = (1, 4)) (show 556 < 572 by decide) (show ¬ (_ ∨ _) by decide) dX7_execute_22 ?_
    refine g_aload_n 1 dX7_execute_23 rfl ?_
    refine r_get (.ref (gX E + (b2 + 30))) f_X7_117_X1 rfl (kbz hb2) (lt_b0 hb2) dX7_execute_24 (fun _ => rfl) ?_
    refine r_get (.int (v.1 (b2 + 30) 6)) f_X7_123_X8 rfl (kb_30 hb2) (lt_b hb2 (by decide)) dX7_execute_27 (fun _ => rfl) ?_
    refine g_icmp_lt 35 dX7_execute_30 (by decide) (fun h45 => ?_) (fun h45 => ?_)
    · have hQ := qp (P := gqTIV Q) h45 hQ
      have hp := hp.1 h45
      exact w_X7_execute_35 b2 hb2 hd     v hp hQ
    · have hQ := qn (P := gqTIV Q) h45 hQ
      have hp := hp.2 h45
      refine g_room (k' := 0) (n' := 0) (by decide) (by decide) ?_
      refine g_lv (lv' := []) [] rfl ?_
      exact w_X7_execute_33 b2 hb2 hd     v hp hQ
def f_X7_execute (b2 : Nat)  (v : gV) : (Int32 ⊕ String) × gV := f_X7_execute_0 b2  v
def p_X7_execute (b2 : Nat)  (v : gV) : Prop := p_X7_execute_0 b2  v
theorem c_X7_execute {E : gE} {d : Nat} (b2 : Nat) (hb2 : isBk b2) (hd : 11 ≤ d)  (v : gV) (hp : p_X7_execute b2  v) : CT E m_X7_execute d 5 30 [.ref (gX E + 553), .ref (gX E + b2)] (rS v) (Cq (gOi (f_X7_execute b2  v).1) (f_X7_execute b2  v).2) := CT.of ok_X7_execute rfl (Nat.le_of_ble_eq_true rfl) (w_X7_execute_0 b2 hb2 hd  v hp ⟨rfl, rfl⟩)
def f_X7_readCommand_68   (v : gV) : Int32 × gV := ((0 : Int32), v)
def p_X7_readCommand_68   (v : gV) : Prop := True
set_option maxHeartbeats 4000000 in
set_option maxRecDepth 100000 in
theorem w_X7_readCommand_68 {E : gE} {d : Nat} {Q : gO → gS → Prop}   (hd : 10 ≤ d)  (v : gV) (hp : p_X7_readCommand_68    v) (hQ : gqIV Q (f_X7_readCommand_68   v)) : gG E m_X7_readCommand d Q 0 0 (rS v) 68 [] [] := by
  refine g_iconst dX7_readCommand_68 (0 : Int32) (by decide) ?_
  exact g_zret rfl rfl dX7_readCommand_69 hQ
def f_X7_readCommand_46   (v : gV) : Int32 × gV := ((1 : Int32), v)
def p_X7_readCommand_46   (v : gV) : Prop := True
set_option maxHeartbeats 4000000 in
set_option maxRecDepth 100000 in
theorem w_X7_readCommand_46 {E : gE} {d : Nat} {Q : gO → gS → Prop}   (hd : 10 ≤ d)  (v : gV) (hp : p_X7_readCommand_46    v) (hQ : gqIV Q (f_X7_readCommand_46   v)) : gG E m_X7_readCommand d Q 0 0 (rS v) 46 [] [] := by
  refine g_iconst dX7_readCommand_46 (1 : Int32) (by decide) ?_
  exact g_zret rfl rfl dX7_readCommand_47 hQ
def f_X7_readCommand_34  (K9 : Int32 → Int32 → Int32 → gV → Int32 × gV)  (x1 : Int32) (x2 : Int32) (x3 : Int32) (s0 : Int32) (v : gV) : Int32 × gV := if s0 = 0 then (K9 x1 (if x2 < (v.1 553 3) then (v.1 553 3) else x2) (x3 + 1) v) else (f_X7_readCommand_46   (vM v 553 2 (nI (x3.toNatClampNeg + 1))))
def p_X7_readCommand_34  (K9 : Int32 → Int32 → Int32 → gV → Int32 × gV)  (PK9 : Int32 → Int32 → Int32 → gV → Prop)  (x1 : Int32) (x2 : Int32) (x3 : Int32) (s0 : Int32) (v : gV) : Prop := ((s0 = 0) → (PK9 x1 (if x2 < (v.1 553 3) then (v.1 553 3) else x2) (x3 + 1) v)) ∧ (¬ (s0 = 0) → ((vp_in x3 10) ∧ (p_X7_readCommand_46    (vM v 553 2 (nI (x3.toNatClampNeg + 1))))))
set_option maxHeartbeats 4000000 in
set_option maxRecDepth 100000 in
theorem w_X7_readCommand_34 {E : gE} {d : Nat} {Q : gO → gS → Prop}   (hd : 10 ≤ d) (K9 : Int32 → Int32 → Int32 → gV → Int32 × gV)  (PK9 : Int32 → Int32 → Int32 → gV → Prop)  (hK9 : ∀ (x1 : Int32) (x2 : Int32) (x3 : Int32) (v : gV), PK9 x1 x2 x3 v → gqIV Q (K9 x1 x2 x3 v) → gG E m_X7_readCommand d Q 0 0 (rS v) 9 [(0, .ref (gX E + 553)), (1, .int x1), (2, .int x2), (3, .int x3)] [])  (x1 : Int32) (x2 : Int32) (x3 : Int32) (s0 : Int32) (v : gV) (hp : p_X7_readCommand_34 K9 PK9 x1 x2 x3 s0 v) (hQ : gqIV Q (f_X7_readCommand_34 K9 x1 x2 x3 s0 v)) : gG E m_X7_readCommand d Q 0 0 (rS v) 34 [(0, .ref (gX E + 553)), (1, .int x1), (2, .int x2), (3, .int x3)] [.int s0] := by
  refine g_if_eq 48 dX7_readCommand_34 (by decide) (fun h4 => ?_) (fun h4 => ?_)
  · have hQ := qp (P := gqIV Q) h4 hQ
    have hp := hp.1 h4
    refine g_iload_n 2 dX7_readCommand_48 rfl ?_
    refine g_aload_n 0 dX7_readCommand_49 rfl ?_
    refine r_get (.int (v.1 553 3)) f_X7_41_X7 rfl (by decide : kd 553 = (0, 5)) (show 553 < 572 by decide) dX7_readCommand_50 (fun _ => rfl) ?_
    refine r_mmax mw_X7_75 rfl (Nat.le_of_ble_eq_true rfl) (by omega) dX7_readCommand_53 ?_
    refine g_istore_n [(2, .int ((if x2 < (v.1 553 3) then (v.1 553 3) else x2))), (0, .ref (gX E + 553)), (1, .int x1), (3, .int x3)] dX7_readCommand_56 rfl (by decide) rfl ?_
    refine g_iinc 3 (x3 + 1) [(3, .int (x3 + 1)), (2, .int ((if x2 < (v.1 553 3) then (v.1 553 3) else x2))), (0, .ref (gX E + 553)), (1, .int x1)] dX7_readCommand_57 rfl rfl (by decide) rfl ?_
    refine g_goto 9 dX7_readCommand_60 (by decide) ?_
    refine g_lv (lv' := [(0, .ref (gX E + 553)), (1, .int x1), (2, .int ((if x2 < (v.1 553 3) then (v.1 553 3) else x2))), (3, .int (x3 + 1))]) [2, 3, 1, 0] rfl ?_
    exact hK9 x1 (if x2 < (v.1 553 3) then (v.1 553 3) else x2) (x3 + 1) v hp hQ
  · have hQ := qn (P := gqIV Q) h4 hQ
    have hp := hp.2 h4
    refine g_aload_n 0 dX7_readCommand_37 rfl ?_
    refine g_getsN (.ref (gva E 30)) (fun s h => gvb_all h) lk_X7_57 rfl dX7_readCommand_38 ?_
    refine g_iload_n 3 dX7_readCommand_41 rfl ?_
    obtain ⟨h5, hp⟩ := hp
    refine g_tq (.ref (gva E x3.toNatClampNeg)) (fun s h => gvb_allT h) h5 rfl dX7_readCommand_42 ?_
    refine r_putV pf_X7_71_X7 rfl (vp_in_nat h5).2 rfl rfl dX7_readCommand_43 ?_
    refine g_lv (lv' := []) [] rfl ?_
    exact w_X7_readCommand_46  hd     (vM v 553 2 (nI (x3.toNatClampNeg + 1))) hp hQ
def f_X7_readCommand_22  (K9 : Int32 → Int32 → Int32 → gV → Int32 × gV)  (x1 : Int32) (x2 : Int32) (x3 : Int32) (v : gV) : Int32 × gV := f_X7_readCommand_34 K9 x1 x2 x3 ((f_X7_fits x3.toNatClampNeg v).1) (f_X7_fits x3.toNatClampNeg v).2
def p_X7_readCommand_22  (K9 : Int32 → Int32 → Int32 → gV → Int32 × gV)  (PK9 : Int32 → Int32 → Int32 → gV → Prop)  (x1 : Int32) (x2 : Int32) (x3 : Int32) (v : gV) : Prop := (vp_in x3 10) ∧ ((p_X7_fits x3.toNatClampNeg v) ∧ (p_X7_readCommand_34 K9 PK9 x1 x2 x3 ((f_X7_fits x3.toNatClampNeg v).1) (f_X7_fits x3.toNatClampNeg v).2))
set_option maxHeartbeats 4000000 in
set_option maxRecDepth 100000 in
theorem w_X7_readCommand_22 {E : gE} {d : Nat} {Q : gO → gS → Prop}   (hd : 10 ≤ d) (K9 : Int32 → Int32 → Int32 → gV → Int32 × gV)  (PK9 : Int32 → Int32 → Int32 → gV → Prop)  (hK9 : ∀ (x1 : Int32) (x2 : Int32) (x3 : Int32) (v : gV), PK9 x1 x2 x3 v → gqIV Q (K9 x1 x2 x3 v) → gG E m_X7_readCommand d Q 0 0 (rS v) 9 [(0, .ref (gX E + 553)), (1, .int x1), (2, .int x2), (3, .int x3)] [])  (x1 : Int32) (x2 : Int32) (x3 : Int32) (v : gV) (hp : p_X7_readCommand_22 K9 PK9 x1 x2 x3 v) (hQ : gqIV Q (f_X7_readCommand_22 K9 x1 x2 x3 v)) : gG E m_X7_readCommand d Q 0 0 (rS v) 22 [(0, .ref (gX E + 553)), (1, .int x1), (2, .int x2), (3, .int x3)] [] := by
  refine g_aload_n 0 dX7_readCommand_22 rfl ?_
  refine g_getsN (.ref (gva E 30)) (fun s h => gvb_all h) lk_X7_57 rfl dX7_readCommand_23 ?_
  refine g_iload_n 3 dX7_readCommand_26 rfl ?_
  obtain ⟨h2, hp⟩ := hp
  refine g_tq (.ref (gva E x3.toNatClampNeg)) (fun s h => gvb_allT h) h2 rfl dX7_readCommand_27 ?_
  refine g_of (.ref (gva E (40 + x3.toNatClampNeg))) (fun s h => gvb_form (vp_in_nat h2).2 h) lk_X7_63 rfl dX7_readCommand_28 ?_
  obtain ⟨h3, hp⟩ := hp
  refine g_callV (rest := []) s_X7_67_X7 rfl (c_X7_fits (E := E) (d := d - 1) x3.toNatClampNeg (vp_in_nat h2).2 (by omega)  v h3) (by decide : kd 553 = (0, 5)) (show 553 < 572 by decide) rfl rfl (Nat.le_of_ble_eq_true rfl) (by omega) (by decide) (by decide) dX7_readCommand_31 (adV ?_) axN
  exact w_X7_readCommand_34  hd K9 PK9 hK9 x1 x2 x3 ((f_X7_fits x3.toNatClampNeg v).1) (f_X7_fits x3.toNatClampNeg v).2 hp hQ
def f_X7_readCommand_9  : Nat → Int32 → Int32 → Int32 → gV → Int32 × gV
  | 0, _, _, _, v => (0, v)
  | n + 1, x1, x2, x3, v => if (10 : Int32) ≤ x3 then (f_X7_readCommand_68   (vM v 553 3 x2)) else (f_X7_readCommand_22 (fun x1 x2 x3 v => f_X7_readCommand_9  n x1 x2 x3 v) x1 x2 x3 (vM v 553 3 x1))
def p_X7_readCommand_9  : Nat → Int32 → Int32 → Int32 → gV → Prop
  | 0, _, _, _, _ => False
  | n + 1, x1, x2, x3, v => (((10 : Int32) ≤ x3) → (p_X7_readCommand_68    (vM v 553 3 x2))) ∧ (¬ ((10 : Int32) ≤ x3) → (p_X7_readCommand_22 (fun x1 x2 x3 v => f_X7_readCommand_9  n x1 x2 x3 v) (fun x1 x2 x3 v => p_X7_readCommand_9   n x1 x2 x3 v) x1 x2 x3 (vM v 553 3 x1)))
set_option maxHeartbeats 4000000 in
set_option maxRecDepth 100000 in
theorem w_X7_readCommand_9 {E : gE} {d : Nat} {Q : gO → gS → Prop}   (hd : 10 ≤ d) : ∀ (n : Nat) (x1 : Int32) (x2 : Int32) (x3 : Int32) (v : gV), p_X7_readCommand_9   n x1 x2 x3 v → gqIV Q (f_X7_readCommand_9  n x1 x2 x3 v) → gG E m_X7_readCommand d Q 0 0 (rS v) 9 [(0, .ref (gX E + 553)), (1, .int x1), (2, .int x2), (3, .int x3)] [] := by
  intro n
  induction n with
  | zero => intro x1 x2 x3 v hp; exact hp.elim
  | succ n ih =>
    intro x1 x2 x3 v hp hQ
    refine g_iload_n 3 dX7_readCommand_9 rfl ?_
    refine g_getsN (.ref (gva E 30)) (fun s h => gvb_all h) lk_X7_57 rfl dX7_readCommand_10 ?_
    refine g_tlen (10 : Int32) (fun s h => gvb_allT h) rfl dX7_readCommand_13 ?_
    refine g_icmp_ge 63 dX7_readCommand_14 (by decide) (fun h1 => ?_) (fun h1 => ?_)
    · have hQ := qp (P := gqIV Q) h1 hQ
      have hp := hp.1 h1
      refine g_aload_n 0 dX7_readCommand_63 rfl ?_
      refine g_iload_n 2 dX7_readCommand_64 rfl ?_
      refine r_putS pf_X7_41_X7 rfl dX7_readCommand_65 ?_
      refine g_lv (lv' := []) [] rfl ?_
      exact w_X7_readCommand_68  hd     (vM v 553 3 x2) hp hQ
    · have hQ := qn (P := gqIV Q) h1 hQ
      have hp := hp.2 h1
      refine g_aload_n 0 dX7_readCommand_17 rfl ?_
      refine g_iload_n 1 dX7_readCommand_18 rfl ?_
      refine r_putS pf_X7_41_X7 rfl dX7_readCommand_19 ?_
      exact w_X7_readCommand_22  hd (fun x1 x2 x3 v => f_X7_readCommand_9  n x1 x2 x3 v) (fun x1 x2 x3 v => p_X7_readCommand_9   n x1 x2 x3 v) ih x1 x2 x3 (vM v 553 3 x1) hp hQ
def f_X7_readCommand_0   (v : gV) : Int32 × gV := f_X7_readCommand_9  5000 (v.1 553 3) (v.1 553 3) (0 : Int32) v
def p_X7_readCommand_0   (v : gV) : Prop := p_X7_readCommand_9   5000 (v.1 553 3) (v.1 553 3) (0 : Int32) v
set_option maxHeartbeats 4000000 in
set_option maxRecDepth 100000 in
theorem w_X7_readCommand_0 {E : gE} {d : Nat} {Q : gO → gS → Prop}   (hd : 10 ≤ d)  (v : gV) (hp : p_X7_readCommand_0    v) (hQ : gqIV Q (f_X7_readCommand_0   v)) : gG E m_X7_readCommand d Q 0 0 (rS v) 0 [(0, .ref (gX E + 553))] [] := by
  refine g_aload_n 0 dX7_readCommand_0 rfl ?_
  refine r_get (.int (v.1 553 3)) f_X7_41_X7 rfl (by decide : kd 553 = (0, 5)) (show 553 < 572 by decide) dX7_readCommand_1 (fun _ => rfl) ?_
  refine g_istore_n [(1, .int (v.1 553 3)), (0, .ref (gX E + 553))] dX7_readCommand_4 rfl (by decide) rfl ?_
  refine g_iload_n 0 dX7_readCommand_5 rfl ?_
  refine g_istore_n [(2, .int (v.1 553 3)), (1, .int (v.1 553 3)), (0, .ref (gX E + 553))] dX7_readCommand_6 rfl (by decide) rfl ?_
  refine g_iconst dX7_readCommand_7 (0 : Int32) (by decide) ?_
  refine g_istore_n [(3, .int ((0 : Int32))), (2, .int (v.1 553 3)), (1, .int (v.1 553 3)), (0, .ref (gX E + 553))] dX7_readCommand_8 rfl (by decide) rfl ?_
  refine g_lv (lv' := [(0, .ref (gX E + 553)), (1, .int (v.1 553 3)), (2, .int (v.1 553 3)), (3, .int ((0 : Int32)))]) [3, 2, 1, 0] rfl ?_
  exact w_X7_readCommand_9  hd    5000 (v.1 553 3) (v.1 553 3) (0 : Int32) v hp hQ
def f_X7_readCommand   (v : gV) : Int32 × gV := f_X7_readCommand_0  v
def p_X7_readCommand   (v : gV) : Prop := p_X7_readCommand_0  v
theorem c_X7_readCommand {E : gE} {d : Nat}   (hd : 10 ≤ d)  (v : gV) (hp : p_X7_readCommand  v) : CT E m_X7_readCommand d 0 0 [.ref (gX E + 553)] (rS v) (Cq (.inl (some (.int ((f_X7_readCommand  v).1)))) (f_X7_readCommand  v).2) := CT.of ok_X7_readCommand rfl (Nat.le_of_ble_eq_true rfl) (w_X7_readCommand_0  hd  v hp ⟨rfl, rfl⟩)
def f_X7_isDone_5 (b2 : Nat) (s0 : Int32) (v : gV) : Int32 × gV := (s0, v)
def p_X7_isDone_5 (b2 : Nat) (s0 : Int32) (v : gV) : Prop := (s0 = 0 ∨ s0 = 1) ∧ (True)
set_option maxHeartbeats 4000000 in
set_option maxRecDepth 100000 in
theorem w_X7_isDone_5 {E : gE} {d : Nat} {Q : gO → gS → Prop} (b2 : Nat) (hb2 : isBk b2) (hd : 12 ≤ d) (s0 : Int32) (v : gV) (hp : p_X7_isDone_5 b2   s0 v) (hQ : gqIV Q (f_X7_isDone_5 b2  s0 v)) : gG E m_X7_isDone d Q 0 0 (rS v) 5 [] [.int s0] := by
  obtain ⟨h4, hp⟩ := hp
  exact g_zret rfl (nz h4) dX7_isDone_5 hQ
def f_X7_isDone_7 (b2 : Nat)  (v : gV) : Int32 × gV := ((0 : Int32), v)
def p_X7_isDone_7 (b2 : Nat)  (v : gV) : Prop := True
set_option maxHeartbeats 4000000 in
set_option maxRecDepth 100000 in
theorem w_X7_isDone_7 {E : gE} {d : Nat} {Q : gO → gS → Prop} (b2 : Nat) (hb2 : isBk b2) (hd : 12 ≤ d)  (v : gV) (hp : p_X7_isDone_7 b2    v) (hQ : gqIV Q (f_X7_isDone_7 b2   v)) : gG E m_X7_isDone d Q 0 0 (rS v) 7 [] [] := by
  refine g_iconst dX7_isDone_7 (0 : Int32) (by decide) ?_
  exact g_zret rfl rfl dX7_isDone_8 hQ
def f_X7_isDone_10 (b2 : Nat)  (v : gV) : Int32 × gV := ((0 : Int32), v)
def p_X7_isDone_10 (b2 : Nat)  (v : gV) : Prop := True
set_option maxHeartbeats 4000000 in
set_option maxRecDepth 100000 in
theorem w_X7_isDone_10 {E : gE} {d : Nat} {Q : gO → gS → Prop} (b2 : Nat) (hb2 : isBk b2) (hd : 12 ≤ d)  (v : gV) (hp : p_X7_isDone_10 b2    v) (hQ : gqIV Q (f_X7_isDone_10 b2   v)) : gG E m_X7_isDone d Q 0 0 (rS v) 10 [] [] := by
  refine g_iconst dX7_isDone_10 (0 : Int32) (by decide) ?_
  exact g_zret rfl rfl dX7_isDone_11 hQ
def f_X7_isDone_13 (b2 : Nat)  (v : gV) : Int32 × gV := ((0 : Int32), v)
def p_X7_isDone_13 (b2 : Nat)  (v : gV) : Prop := True
set_option maxHeartbeats 4000000 in
set_option maxRecDepth 100000 in
theorem w_X7_isDone_13 {E : gE} {d : Nat} {Q : gO → gS → Prop} (b2 : Nat) (hb2 : isBk b2) (hd : 12 ≤ d)  (v : gV) (hp : p_X7_isDone_13 b2    v) (hQ : gqIV Q (f_X7_isDone_13 b2   v)) : gG E m_X7_isDone d Q 0 0 (rS v) 13 [] [] := by
  refine g_iconst dX7_isDone_13 (0 : Int32) (by decide) ?_
  exact g_zret rfl rfl dX7_isDone_14 hQ
def f_X7_isDone_16 (b2 : Nat)  (v : gV) : Int32 × gV := ((0 : Int32), v)
def p_X7_isDone_16 (b2 : Nat)  (v : gV) : Prop := True
set_option maxHeartbeats 4000000 in
set_option maxRecDepth 100000 in
theorem w_X7_isDone_16 {E : gE} {d : Nat} {Q : gO → gS → Prop} (b2 : Nat) (hb2 : isBk b2) (hd : 12 ≤ d)  (v : gV) (hp : p_X7_isDone_16 b2    v) (hQ : gqIV Q (f_X7_isDone_16 b2   v)) : gG E m_X7_isDone d Q 0 0 (rS v) 16 [] [] := by
  refine g_iconst dX7_isDone_16 (0 : Int32) (by decide) ?_
  exact g_zret rfl rfl dX7_isDone_17 hQ
def f_X7_isDone_0 (b2 : Nat)  (v : gV) : Int32 × gV := Sum.elim (fun (sr2 : Int32) => f_X7_isDone_5 b2  sr2 (f_X7_execute b2 v).2) (fun (e : String) => if e = "java/util/NoSuchElementException" then (f_X7_isDone_7 b2   (f_X7_execute b2 v).2) else (if e = "java/lang/IllegalArgumentException" then (f_X7_isDone_10 b2   (f_X7_execute b2 v).2) else (if e = "java/lang/IllegalStateException" then (f_X7_isDone_13 b2   (f_X7_execute b2 v).2) else (if e = "java/lang/UnsupportedOperationException" then (f_X7_isDone_16 b2   (f_X7_execute b2 v).2) else ((0, v)))))) (f_X7_execute b2 v).1
def p_X7_isDone_0 (b2 : Nat)  (v : gV) : Prop := (p_X7_execute b2 v) ∧ ((∀ (sr2 : Int32), (f_X7_execute b2 v).1 = Sum.inl sr2 → (p_X7_isDone_5 b2   sr2 (f_X7_execute b2 v).2)) ∧ (∀ (e : String), (f_X7_execute b2 v).1 = Sum.inr e → (((e = "java/util/NoSuchElementException") → (p_X7_isDone_7 b2    (f_X7_execute b2 v).2)) ∧ (¬ (e = "java/util/NoSuchElementException") → (((e = "java/lang/IllegalArgumentException") → (p_X7_isDone_10 b2    (f_X7_execute b2 v).2)) ∧ (¬ (e = "java/lang/IllegalArgumentException") → (((e = "java/lang/IllegalStateException") → (p_X7_isDone_13 b2    (f_X7_execute b2 v).2)) ∧ (¬ (e = "java/lang/IllegalStateException") → (((e = "java/lang/UnsupportedOperationException") → (p_X7_isDone_16 b2    (f_X7_execute b2 v).2)) ∧ (¬ (e = "java/lang/UnsupportedOperationException") → (False)))))))))))
set_option maxHeartbeats 4000000 in
set_option maxRecDepth 100000 in
theorem w_X7_isDone_0 {E : gE} {d : Nat} {Q : gO → gS → Prop} (b2 : Nat) (hb2 : isBk b2) (hd : 12 ≤ d)  (v : gV) (hp : p_X7_isDone_0 b2    v) (hQ : gqIV Q (f_X7_isDone_0 b2   v)) : gG E m_X7_isDone d Q 5 30 (rS v) 0 [(0, .ref (gX E + 553)), (1, .ref (gX E + b2))] [] := by
  refine g_aload_n 0 dX7_isDone_0 rfl ?_
  refine g_aload_n 1 dX7_isDone_1 rfl ?_
  obtain ⟨h1, hp⟩ := hp
  refine g_callV (rest := []) s_X7_105_X7 rfl (c_X7_execute (E := E) (d := d - 1) b2 hb2 (by omega)  v h1) (by decide : kd 553 = (0, 5)) (show 553 < 572 by decide) rfl rfl (Nat.le_of_ble_eq_true rfl) (by omega) (by decide) (by decide) dX7_isDone_2 (adTI (fun sr2 h3 => ?_)) (axTI (fun e h3 => ?_))
  · have hQ := ql (P := gqIV Q) h3 hQ
    have hp := hp.1 sr2 h3
    refine g_lv (lv' := []) [] rfl ?_
    exact w_X7_isDone_5 b2 hb2 hd    sr2 (f_X7_execute b2 v).2 hp hQ
  · have hQ := qe (P := gqIV Q) h3 hQ
    have hp := hp.2 e h3
    by_cases h5 : e = "java/util/NoSuchElementException"
    · subst h5
      have hQ := qp (P := gqIV Q) rfl hQ
      have hp := hp.1 rfl
      refine g_catch2 [] (0, 5, 6, 108) [(0, 5, 9, 110), (0, 5, 12, 26), (0, 5, 15, 112)] rfl (fun z hz => absurd hz List.not_mem_nil) (by decide) (by decide) w_1822 w_880 (fun q => ?_)
      refine g_astore_n [(2, .ref q), (0, .ref (gX E + 553)), (1, .ref (gX E + b2))] dX7_isDone_6 rfl (by decide) rfl ?_
      refine g_lv (lv' := []) [] rfl ?_
      exact w_X7_isDone_7 b2 hb2 hd     (f_X7_execute b2 v).2 hp hQ
    have hQ := qn (P := gqIV Q) h5 hQ
    have hp := hp.2 h5
    by_cases h6 : e = "java/lang/IllegalArgumentException"
    · subst h6
      have hQ := qp (P := gqIV Q) rfl hQ
      have hp := hp.1 rfl
      refine g_catch2 [(0, 5, 6, 108)] (0, 5, 9, 110) [(0, 5, 12, 26), (0, 5, 15, 112)] rfl (List.forall_mem_cons.mpr ⟨⟨by decide, "java/util/NoSuchElementException", w_1822, fun s hK => gnc (by decide +kernel) hK⟩, (fun z hz => absurd hz List.not_mem_nil)⟩) (by decide) (by decide) w_1823 w_753 (fun q => ?_)
      refine g_astore_n [(2, .ref q), (0, .ref (gX E + 553)), (1, .ref (gX E + b2))] dX7_isDone_9 rfl (by decide) rfl ?_
      refine g_lv (lv' := []) [] rfl ?_
      exact w_X7_isDone_10 b2 hb2 hd     (f_X7_execute b2 v).2 hp hQ
    have hQ := qn (P := gqIV Q) h6 hQ
    have hp := hp.2 h6
    by_cases h7 : e = "java/lang/IllegalStateException"
    · subst h7
      have hQ := qp (P := gqIV Q) rfl hQ
      have hp := hp.1 rfl
      refine g_catch2 [(0, 5, 6, 108), (0, 5, 9, 110)] (0, 5, 12, 26) [(0, 5, 15, 112)] rfl (List.forall_mem_cons.mpr ⟨⟨by decide, "java/util/NoSuchElementException", w_1822, fun s hK => gnc (by decide +kernel) hK⟩, (List.forall_mem_cons.mpr ⟨⟨by decide, "java/lang/IllegalArgumentException", w_1823, fun s hK => gnc (by decide +kernel) hK⟩, (fun z hz => absurd hz List.not_mem_nil)⟩)⟩) (by decide) (by decide) w_1745 w_834 (fun q => ?_)
      refine g_astore_n [(2, .ref q), (0, .ref (gX E + 553)), (1, .ref (gX E + b2))] dX7_isDone_12 rfl (by decide) rfl ?_
      refine g_lv (lv' := []) [] rfl ?_
      exact w_X7_isDone_13 b2 hb2 hd     (f_X7_execute b2 v).2 hp hQ
    have hQ := qn (P := gqIV Q) h7 hQ
    have hp := hp.2 h7
    by_cases h8 : e = "java/lang/UnsupportedOperationException"
    · subst h8
      have hQ := qp (P := gqIV Q) rfl hQ
      have hp := hp.1 rfl
      refine g_catch2 [(0, 5, 6, 108), (0, 5, 9, 110), (0, 5, 12, 26)] (0, 5, 15, 112) [] rfl (List.forall_mem_cons.mpr ⟨⟨by decide, "java/util/NoSuchElementException", w_1822, fun s hK => gnc (by decide +kernel) hK⟩, (List.forall_mem_cons.mpr ⟨⟨by decide, "java/lang/IllegalArgumentException", w_1823, fun s hK => gnc (by decide +kernel) hK⟩, (List.forall_mem_cons.mpr ⟨⟨by decide, "java/lang/IllegalStateException", w_1745, fun s hK => gnc (by decide +kernel) hK⟩, (fun z hz => absurd hz List.not_mem_nil)⟩)⟩)⟩) (by decide) (by decide) w_1824 w_1025 (fun q => ?_)
      refine g_astore_n [(2, .ref q), (0, .ref (gX E + 553)), (1, .ref (gX E + b2))] dX7_isDone_15 rfl (by decide) rfl ?_
      refine g_lv (lv' := []) [] rfl ?_
      exact w_X7_isDone_16 b2 hb2 hd     (f_X7_execute b2 v).2 hp hQ
    have hQ := qn (P := gqIV Q) h8 hQ
    have hp := hp.2 h8
    exact hp.elim
def f_X7_isDone (b2 : Nat)  (v : gV) : Int32 × gV := f_X7_isDone_0 b2  v
def p_X7_isDone (b2 : Nat)  (v : gV) : Prop := p_X7_isDone_0 b2  v
theorem c_X7_isDone {E : gE} {d : Nat} (b2 : Nat) (hb2 : isBk b2) (hd : 12 ≤ d)  (v : gV) (hp : p_X7_isDone b2  v) : CT E m_X7_isDone d 5 30 [.ref (gX E + 553), .ref (gX E + b2)] (rS v) (Cq (.inl (some (.int ((f_X7_isDone b2  v).1)))) (f_X7_isDone b2  v).2) := CT.ofH ok_X7_isDone rfl (Nat.le_of_ble_eq_true rfl) (w_X7_isDone_0 b2 hb2 hd  v hp ⟨rfl, rfl⟩)
def f_X7_countCommands_66  (K7 : Int32 → gV → Int32 × gV)  (x1 : Int32) (v : gV) : Int32 × gV := K7 (x1 + 1) v
def p_X7_countCommands_66  (K7 : Int32 → gV → Int32 × gV)  (PK7 : Int32 → gV → Prop)  (x1 : Int32) (v : gV) : Prop := PK7 (x1 + 1) v
set_option maxHeartbeats 4000000 in
set_option maxRecDepth 100000 in
theorem w_X7_countCommands_66 {E : gE} {d : Nat} {Q : gO → gS → Prop}   (hd : 11 ≤ d) (K7 : Int32 → gV → Int32 × gV)  (PK7 : Int32 → gV → Prop)  (hK7 : ∀ (x1 : Int32) (v : gV), PK7 x1 v → gqIV Q (K7 x1 v) → gG E m_X7_countCommands d Q 0 0 (rS v) 7 [(0, .ref (gX E + 553)), (1, .int x1)] [])  (x1 : Int32) (v : gV) (hp : p_X7_countCommands_66 K7 PK7 x1 v) (hQ : gqIV Q (f_X7_countCommands_66 K7 x1 v)) : gG E m_X7_countCommands d Q 0 0 (rS v) 66 [(0, .ref (gX E + 553)), (1, .int x1)] [] := by
  refine g_iinc 1 (x1 + 1) [(1, .int (x1 + 1)), (0, .ref (gX E + 553))] dX7_countCommands_66 rfl rfl (by decide) rfl ?_
  refine g_goto 7 dX7_countCommands_69 (by decide) ?_
  refine g_lv (lv' := [(0, .ref (gX E + 553)), (1, .int (x1 + 1))]) [1, 0] rfl ?_
  exact hK7 (x1 + 1) v hp hQ
def f_X7_countCommands_17  (K7 : Int32 → gV → Int32 × gV)  (x1 : Int32) (s0 : Int32) (v : gV) : Int32 × gV := if s0 = 0 then (((-1 : Int32), v)) else (if (v.1 553 3) < (f_J4_length_8abf5 554 v) then (if (f_J4_charAt_5068e 554 (v.1 553 3) v) = (59 : Int32) then (f_X7_countCommands_66 K7 x1 (vM v 553 3 ((v.1 553 3) + (1 : Int32)))) else (((-1 : Int32), v))) else ((x1, v)))
def p_X7_countCommands_17  (K7 : Int32 → gV → Int32 × gV)  (PK7 : Int32 → gV → Prop)  (x1 : Int32) (s0 : Int32) (v : gV) : Prop := ((s0 = 0) → (True)) ∧ (¬ (s0 = 0) → ((p_J4_length_8abf5 554 v) ∧ ((((v.1 553 3) < (f_J4_length_8abf5 554 v)) → ((p_J4_charAt_5068e 554 (v.1 553 3) v) ∧ ((((f_J4_charAt_5068e 554 (v.1 553 3) v) = (59 : Int32)) → (p_X7_countCommands_66 K7 PK7 x1 (vM v 553 3 ((v.1 553 3) + (1 : Int32))))) ∧ (¬ ((f_J4_charAt_5068e 554 (v.1 553 3) v) = (59 : Int32)) → (True))))) ∧ (¬ ((v.1 553 3) < (f_J4_length_8abf5 554 v)) → (True)))))
set_option maxHeartbeats 4000000 in
set_option maxRecDepth 100000 in
theorem w_X7_countCommands_17 {E : gE} {d : Nat} {Q : gO → gS → Prop}   (hd : 11 ≤ d) (K7 : Int32 → gV → Int32 × gV)  (PK7 : Int32 → gV → Prop)  (hK7 : ∀ (x1 : Int32) (v : gV), PK7 x1 v → gqIV Q (K7 x1 v) → gG E m_X7_countCommands d Q 0 0 (rS v) 7 [(0, .ref (gX E + 553)), (1, .int x1)] [])  (x1 : Int32) (s0 : Int32) (v : gV) (hp : p_X7_countCommands_17 K7 PK7 x1 s0 v) (hQ : gqIV Q (f_X7_countCommands_17 K7 x1 s0 v)) : gG E m_X7_countCommands d Q 0 0 (rS v) 17 [(0, .ref (gX E + 553)), (1, .int x1)] [.int s0] := by
  refine g_if_ne 22 dX7_countCommands_17 (by decide) (fun h3 => ?_) (fun h3 => ?_)
  · have hQ := qn (P := gqIV Q) h3 hQ
    have hp := hp.2 h3
    refine g_aload_n 0 dX7_countCommands_22 rfl ?_
    refine r_get (.int (v.1 553 3)) f_X7_41_X7 rfl (by decide : kd 553 = (0, 5)) (show 553 < 572 by decide) dX7_countCommands_23 (fun _ => rfl) ?_
    refine g_aload_n 0 dX7_countCommands_26 rfl ?_
    refine r_get (.ref (gX E + 554)) f_X7_12_X7 rfl (by decide : kd 553 = (0, 5)) (show 553 < 572 by decide) dX7_countCommands_27 (fun _ => rfl) ?_
    obtain ⟨h4, hp⟩ := hp
    refine g_callV (rest := [.int (v.1 553 3)]) s_X7_22_J4 rfl (c_J4_length_8abf5 (E := E) (d := d - 1) 554 (Or.inl rfl) (by omega)  v h4) (by decide : kd 554 = (0, 10)) (show 554 < 572 by decide) rfl rfl (Nat.le_of_ble_eq_true rfl) (by omega) (by decide) (by decide) dX7_countCommands_30 (adV ?_) axN
    refine g_icmp_lt 38 dX7_countCommands_33 (by decide) (fun h5 => ?_) (fun h5 => ?_)
    · have hQ := qp (P := gqIV Q) h5 hQ
      have hp := hp.1 h5
      refine g_aload_n 0 dX7_countCommands_38 rfl ?_
      refine r_get (.ref (gX E + 554)) f_X7_12_X7 rfl (by decide : kd 553 = (0, 5)) (show 553 < 572 by decide) dX7_countCommands_39 (fun _ => rfl) ?_
      refine g_aload_n 0 dX7_countCommands_42 rfl ?_
      refine r_get (.int (v.1 553 3)) f_X7_41_X7 rfl (by decide : kd 553 = (0, 5)) (show 553 < 572 by decide) dX7_countCommands_43 (fun _ => rfl) ?_
      obtain ⟨h6, hp⟩ := hp
      refine g_callV (rest := []) s_X7_49_J4 rfl (c_J4_charAt_5068e (E := E) (d := d - 1) 554 (Or.inl rfl) (by omega) (v.1 553 3) v h6) (by decide : kd 554 = (0, 10)) (show 554 < 572 by decide) rfl rfl (Nat.le_of_ble_eq_true rfl) (by omega) (by decide) (by decide) dX7_countCommands_46 (adV ?_) axN
      refine g_bipush dX7_countCommands_49 (59 : Int32) (by decide) ?_
      refine g_icmp_eq 56 dX7_countCommands_51 (by decide) (fun h7 => ?_) (fun h7 => ?_)
      · have hQ := qp (P := gqIV Q) h7 hQ
        have hp := hp.1 h7
        refine g_aload_n 0 dX7_countCommands_56 rfl ?_
        refine g_dup dX7_countCommands_57 rfl ?_
        refine r_get (.int (v.1 553 3)) f_X7_41_X7 rfl (by decide : kd 553 = (0, 5)) (show 553 < 572 by decide) dX7_countCommands_58 (fun _ => rfl) ?_
        refine g_iconst dX7_countCommands_61 (1 : Int32) (by decide) ?_
        refine g_iadd dX7_countCommands_62 ?_
        refine r_putS pf_X7_41_X7 rfl dX7_countCommands_63 ?_
        exact w_X7_countCommands_66  hd K7 PK7 hK7 x1 (vM v 553 3 ((v.1 553 3) + (1 : Int32))) hp hQ
      · have hQ := qn (P := gqIV Q) h7 hQ
        have hp := hp.2 h7
        refine g_iconst dX7_countCommands_54 (-1 : Int32) (by decide) ?_
        exact g_iret rfl dX7_countCommands_55 hQ
    · have hQ := qn (P := gqIV Q) h5 hQ
      have hp := hp.2 h5
      refine g_iload_n 1 dX7_countCommands_36 rfl ?_
      exact g_iret rfl dX7_countCommands_37 hQ
  · have hQ := qp (P := gqIV Q) h3 hQ
    have hp := hp.1 h3
    refine g_iconst dX7_countCommands_20 (-1 : Int32) (by decide) ?_
    exact g_iret rfl dX7_countCommands_21 hQ
def f_X7_countCommands_7  : Nat → Int32 → gV → Int32 × gV
  | 0, _, v => (0, v)
  | n + 1, x1, v => if (60 : Int32) < x1 then (((-1 : Int32), v)) else (f_X7_countCommands_17 (fun x1 v => f_X7_countCommands_7  n x1 v) x1 ((f_X7_readCommand  v).1) (f_X7_readCommand  v).2)
def p_X7_countCommands_7  : Nat → Int32 → gV → Prop
  | 0, _, _ => False
  | n + 1, x1, v => (((60 : Int32) < x1) → (True)) ∧ (¬ ((60 : Int32) < x1) → ((p_X7_readCommand  v) ∧ (p_X7_countCommands_17 (fun x1 v => f_X7_countCommands_7  n x1 v) (fun x1 v => p_X7_countCommands_7   n x1 v) x1 ((f_X7_readCommand  v).1) (f_X7_readCommand  v).2)))
set_option maxHeartbeats 4000000 in
set_option maxRecDepth 100000 in
theorem w_X7_countCommands_7 {E : gE} {d : Nat} {Q : gO → gS → Prop}   (hd : 11 ≤ d) : ∀ (n : Nat) (x1 : Int32) (v : gV), p_X7_countCommands_7   n x1 v → gqIV Q (f_X7_countCommands_7  n x1 v) → gG E m_X7_countCommands d Q 0 0 (rS v) 7 [(0, .ref (gX E + 553)), (1, .int x1)] [] := by
  intro n
  induction n with
  | zero => intro x1 v hp; exact hp.elim
  | succ n ih =>
    intro x1 v hp hQ
    refine g_iload_n 1 dX7_countCommands_7 rfl ?_
    refine g_bipush dX7_countCommands_8 (60 : Int32) (by decide) ?_
    refine g_icmp_gt 72 dX7_countCommands_10 (by decide) (fun h1 => ?_) (fun h1 => ?_)
    · have hQ := qp (P := gqIV Q) h1 hQ
      have hp := hp.1 h1
      refine g_iconst dX7_countCommands_72 (-1 : Int32) (by decide) ?_
      exact g_iret rfl dX7_countCommands_73 hQ
    · have hQ := qn (P := gqIV Q) h1 hQ
      have hp := hp.2 h1
      refine g_aload_n 0 dX7_countCommands_13 rfl ?_
      obtain ⟨h2, hp⟩ := hp
      refine g_callV (rest := []) s_X7_45_X7 rfl (c_X7_readCommand (E := E) (d := d - 1)   (by omega)  v h2) (by decide : kd 553 = (0, 5)) (show 553 < 572 by decide) rfl rfl (Nat.le_of_ble_eq_true rfl) (by omega) (by decide) (by decide) dX7_countCommands_14 (adV ?_) axN
      exact w_X7_countCommands_17  hd (fun x1 v => f_X7_countCommands_7  n x1 v) (fun x1 v => p_X7_countCommands_7   n x1 v) ih x1 ((f_X7_readCommand  v).1) (f_X7_readCommand  v).2 hp hQ
def f_X7_countCommands_5   (v : gV) : Int32 × gV := f_X7_countCommands_7  5000 (1 : Int32) v
def p_X7_countCommands_5   (v : gV) : Prop := p_X7_countCommands_7   5000 (1 : Int32) v
set_option maxHeartbeats 4000000 in
set_option maxRecDepth 100000 in
theorem w_X7_countCommands_5 {E : gE} {d : Nat} {Q : gO → gS → Prop}   (hd : 11 ≤ d)  (v : gV) (hp : p_X7_countCommands_5    v) (hQ : gqIV Q (f_X7_countCommands_5   v)) : gG E m_X7_countCommands d Q 0 0 (rS v) 5 [(0, .ref (gX E + 553))] [] := by
  refine g_iconst dX7_countCommands_5 (1 : Int32) (by decide) ?_
  refine g_istore_n [(1, .int ((1 : Int32))), (0, .ref (gX E + 553))] dX7_countCommands_6 rfl (by decide) rfl ?_
  refine g_lv (lv' := [(0, .ref (gX E + 553)), (1, .int ((1 : Int32)))]) [1, 0] rfl ?_
  exact w_X7_countCommands_7  hd    5000 (1 : Int32) v hp hQ
def f_X7_countCommands_0   (v : gV) : Int32 × gV := f_X7_countCommands_5   (vM v 553 3 (0 : Int32))
def p_X7_countCommands_0   (v : gV) : Prop := p_X7_countCommands_5    (vM v 553 3 (0 : Int32))
set_option maxHeartbeats 4000000 in
set_option maxRecDepth 100000 in
theorem w_X7_countCommands_0 {E : gE} {d : Nat} {Q : gO → gS → Prop}   (hd : 11 ≤ d)  (v : gV) (hp : p_X7_countCommands_0    v) (hQ : gqIV Q (f_X7_countCommands_0   v)) : gG E m_X7_countCommands d Q 0 0 (rS v) 0 [(0, .ref (gX E + 553))] [] := by
  refine g_aload_n 0 dX7_countCommands_0 rfl ?_
  refine g_iconst dX7_countCommands_1 (0 : Int32) (by decide) ?_
  refine r_putS pf_X7_41_X7 rfl dX7_countCommands_2 ?_
  exact w_X7_countCommands_5  hd     (vM v 553 3 (0 : Int32)) hp hQ
def f_X7_countCommands   (v : gV) : Int32 × gV := f_X7_countCommands_0  v
def p_X7_countCommands   (v : gV) : Prop := p_X7_countCommands_0  v
theorem c_X7_countCommands {E : gE} {d : Nat}   (hd : 11 ≤ d)  (v : gV) (hp : p_X7_countCommands  v) : CT E m_X7_countCommands d 0 0 [.ref (gX E + 553)] (rS v) (Cq (.inl (some (.int ((f_X7_countCommands  v).1)))) (f_X7_countCommands  v).2) := CT.of ok_X7_countCommands rfl (Nat.le_of_ble_eq_true rfl) (w_X7_countCommands_0  hd  v hp ⟨rfl, rfl⟩)
def f_X7_firstFailure_27 (b2 : Nat) (x3 : Int32) (v : gV) : Int32 × gV := (x3, v)
def p_X7_firstFailure_27 (b2 : Nat) (x3 : Int32) (v : gV) : Prop := True
set_option maxHeartbeats 4000000 in
set_option maxRecDepth 100000 in
theorem w_X7_firstFailure_27 {E : gE} {d : Nat} {Q : gO → gS → Prop} (b2 : Nat) (hb2 : isBk b2) (hd : 13 ≤ d) (x3 : Int32) (v : gV) (hp : p_X7_firstFailure_27 b2   x3 v) (hQ : gqIV Q (f_X7_firstFailure_27 b2  x3 v)) : gG E m_X7_firstFailure d Q 0 0 (rS v) 27 [(3, .int x3)] [] := by
  refine g_iload_n 0 dX7_firstFailure_27 rfl ?_
  exact g_iret rfl dX7_firstFailure_28 hQ
def f_X7_firstFailure_39 (b2 : Nat) (K7 : Int32 → Int32 → gV → Int32 × gV)  (x2 : Int32) (x3 : Int32) (v : gV) : Int32 × gV := K7 x2 (x3 + 1) v
def p_X7_firstFailure_39 (b2 : Nat) (K7 : Int32 → Int32 → gV → Int32 × gV)  (PK7 : Int32 → Int32 → gV → Prop)  (x2 : Int32) (x3 : Int32) (v : gV) : Prop := PK7 x2 (x3 + 1) v
set_option maxHeartbeats 4000000 in
set_option maxRecDepth 100000 in
theorem w_X7_firstFailure_39 {E : gE} {d : Nat} {Q : gO → gS → Prop} (nf : Nat) (b2 : Nat) (hb2 : isBk b2) (hd : 13 ≤ d) (K7 : Int32 → Int32 → gV → Int32 × gV)  (PK7 : Int32 → Int32 → gV → Prop)  (hK7 : ∀ (x2 : Int32) (x3 : Int32) (v : gV), PK7 x2 x3 v → gqIV Q (K7 x2 x3 v) → gG E m_X7_firstFailure d Q (5 * nf) (30 * nf) (rS v) 7 [(0, .ref (gX E + 553)), (1, .ref (gX E + b2)), (2, .int x2), (3, .int x3)] [])  (x2 : Int32) (x3 : Int32) (v : gV) (hp : p_X7_firstFailure_39 b2 K7 PK7 x2 x3 v) (hQ : gqIV Q (f_X7_firstFailure_39 b2 K7 x2 x3 v)) : gG E m_X7_firstFailure d Q (5 * nf + 0) (30 * nf + 0) (rS v) 39 [(0, .ref (gX E + 553)), (1, .ref (gX E + b2)), (2, .int x2), (3, .int x3)] [] := by
  refine g_iinc 3 (x3 + 1) [(3, .int (x3 + 1)), (0, .ref (gX E + 553)), (1, .ref (gX E + b2)), (2, .int x2)] dX7_firstFailure_39 rfl rfl (by decide) rfl ?_
  refine g_goto 7 dX7_firstFailure_42 (by decide) ?_
  refine g_room (k' := (5 * nf)) (n' := (30 * nf)) (by omega) (by omega) ?_
  refine g_lv (lv' := [(0, .ref (gX E + 553)), (1, .ref (gX E + b2)), (2, .int x2), (3, .int (x3 + 1))]) [1, 2, 3, 0] rfl ?_
  exact hK7 x2 (x3 + 1) v hp hQ
def f_X7_firstFailure_24 (b2 : Nat) (K7 : Int32 → Int32 → gV → Int32 × gV)  (x2 : Int32) (x3 : Int32) (s0 : Int32) (v : gV) : Int32 × gV := if s0 = 0 then (f_X7_firstFailure_27 b2  x3 v) else (f_X7_firstFailure_39 b2 K7 x2 x3 (vM v 553 3 ((v.1 553 3) + (1 : Int32))))
def p_X7_firstFailure_24 (b2 : Nat) (K7 : Int32 → Int32 → gV → Int32 × gV)  (PK7 : Int32 → Int32 → gV → Prop)  (x2 : Int32) (x3 : Int32) (s0 : Int32) (v : gV) : Prop := ((s0 = 0) → (p_X7_firstFailure_27 b2   x3 v)) ∧ (¬ (s0 = 0) → (p_X7_firstFailure_39 b2 K7 PK7 x2 x3 (vM v 553 3 ((v.1 553 3) + (1 : Int32)))))
set_option maxHeartbeats 4000000 in
set_option maxRecDepth 100000 in
theorem w_X7_firstFailure_24 {E : gE} {d : Nat} {Q : gO → gS → Prop} (nf : Nat) (b2 : Nat) (hb2 : isBk b2) (hd : 13 ≤ d) (K7 : Int32 → Int32 → gV → Int32 × gV)  (PK7 : Int32 → Int32 → gV → Prop)  (hK7 : ∀ (x2 : Int32) (x3 : Int32) (v : gV), PK7 x2 x3 v → gqIV Q (K7 x2 x3 v) → gG E m_X7_firstFailure d Q (5 * nf) (30 * nf) (rS v) 7 [(0, .ref (gX E + 553)), (1, .ref (gX E + b2)), (2, .int x2), (3, .int x3)] [])  (x2 : Int32) (x3 : Int32) (s0 : Int32) (v : gV) (hp : p_X7_firstFailure_24 b2 K7 PK7 x2 x3 s0 v) (hQ : gqIV Q (f_X7_firstFailure_24 b2 K7 x2 x3 s0 v)) : gG E m_X7_firstFailure d Q (5 * nf + 0) (30 * nf + 0) (rS v) 24 [(0, .ref (gX E + 553)), (1, .ref (gX E + b2)), (2, .int x2), (3, .int x3)] [.int s0] := by
  refine g_if_ne 29 dX7_firstFailure_24 (by decide) (fun h5 => ?_) (fun h5 => ?_)
  · have hQ := qn (P := gqIV Q) h5 hQ
    have hp := hp.2 h5
    refine g_aload_n 0 dX7_firstFailure_29 rfl ?_
    refine g_dup dX7_firstFailure_30 rfl ?_
    refine r_get (.int (v.1 553 3)) f_X7_41_X7 rfl (by decide : kd 553 = (0, 5)) (show 553 < 572 by decide) dX7_firstFailure_31 (fun _ => rfl) ?_
    refine g_iconst dX7_firstFailure_34 (1 : Int32) (by decide) ?_
    refine g_iadd dX7_firstFailure_35 ?_
    refine r_putS pf_X7_41_X7 rfl dX7_firstFailure_36 ?_
    refine g_room (k' := (5 * nf + 0)) (n' := (30 * nf + 0)) (by omega) (by omega) ?_
    exact w_X7_firstFailure_39 nf b2 hb2 hd K7 PK7 hK7 x2 x3 (vM v 553 3 ((v.1 553 3) + (1 : Int32))) hp hQ
  · have hQ := qp (P := gqIV Q) h5 hQ
    have hp := hp.1 h5
    refine g_room (k' := 0) (n' := 0) (by omega) (by omega) ?_
    refine g_lv (lv' := [(3, .int x3)]) [3] rfl ?_
    exact w_X7_firstFailure_27 b2 hb2 hd    x3 v hp hQ
def f_X7_firstFailure_16 (b2 : Nat) (K7 : Int32 → Int32 → gV → Int32 × gV)  (x2 : Int32) (x3 : Int32) (s0 : Int32) (v : gV) : Int32 × gV := if s0 = 0 then (f_X7_firstFailure_27 b2  x3 v) else (f_X7_firstFailure_24 b2 K7 x2 x3 ((f_X7_isDone b2 v).1) (f_X7_isDone b2 v).2)
def p_X7_firstFailure_16 (b2 : Nat) (K7 : Int32 → Int32 → gV → Int32 × gV)  (PK7 : Int32 → Int32 → gV → Prop)  (x2 : Int32) (x3 : Int32) (s0 : Int32) (v : gV) : Prop := ((s0 = 0) → (p_X7_firstFailure_27 b2   x3 v)) ∧ (¬ (s0 = 0) → ((p_X7_isDone b2 v) ∧ (p_X7_firstFailure_24 b2 K7 PK7 x2 x3 ((f_X7_isDone b2 v).1) (f_X7_isDone b2 v).2)))
set_option maxHeartbeats 4000000 in
set_option maxRecDepth 100000 in
theorem w_X7_firstFailure_16 {E : gE} {d : Nat} {Q : gO → gS → Prop} (nf : Nat) (b2 : Nat) (hb2 : isBk b2) (hd : 13 ≤ d) (K7 : Int32 → Int32 → gV → Int32 × gV)  (PK7 : Int32 → Int32 → gV → Prop)  (hK7 : ∀ (x2 : Int32) (x3 : Int32) (v : gV), PK7 x2 x3 v → gqIV Q (K7 x2 x3 v) → gG E m_X7_firstFailure d Q (5 * nf) (30 * nf) (rS v) 7 [(0, .ref (gX E + 553)), (1, .ref (gX E + b2)), (2, .int x2), (3, .int x3)] [])  (x2 : Int32) (x3 : Int32) (s0 : Int32) (v : gV) (hp : p_X7_firstFailure_16 b2 K7 PK7 x2 x3 s0 v) (hQ : gqIV Q (f_X7_firstFailure_16 b2 K7 x2 x3 s0 v)) : gG E m_X7_firstFailure d Q (5 * nf + 5) (30 * nf + 30) (rS v) 16 [(0, .ref (gX E + 553)), (1, .ref (gX E + b2)), (2, .int x2), (3, .int x3)] [.int s0] := by
  refine g_if_eq 27 dX7_firstFailure_16 (by decide) (fun h3 => ?_) (fun h3 => ?_)
  · have hQ := qp (P := gqIV Q) h3 hQ
    have hp := hp.1 h3
    refine g_room (k' := 0) (n' := 0) (by omega) (by omega) ?_
    refine g_lv (lv' := [(3, .int x3)]) [3] rfl ?_
    exact w_X7_firstFailure_27 b2 hb2 hd    x3 v hp hQ
  · have hQ := qn (P := gqIV Q) h3 hQ
    have hp := hp.2 h3
    refine g_aload_n 0 dX7_firstFailure_19 rfl ?_
    refine g_aload_n 1 dX7_firstFailure_20 rfl ?_
    obtain ⟨h4, hp⟩ := hp
    refine g_callW (rest := []) s_X7_53_X7 rfl (c_X7_isDone (E := E) (d := d - 1) b2 hb2 (by omega)  v h4) cqn (by decide : kd 553 = (0, 5)) (show 553 < 572 by decide) rfl rfl (Nat.le_of_ble_eq_true rfl) (by omega) (by omega) (by omega) dX7_firstFailure_21 (adV ?_)
    refine g_room (k' := (5 * nf + 0)) (n' := (30 * nf + 0)) (by omega) (by omega) ?_
    exact w_X7_firstFailure_24 nf b2 hb2 hd K7 PK7 hK7 x2 x3 ((f_X7_isDone b2 v).1) (f_X7_isDone b2 v).2 hp hQ
def f_X7_firstFailure_7 (b2 : Nat) : Nat → Int32 → Int32 → gV → Int32 × gV
  | 0, _, _, v => (0, v)
  | n + 1, x2, x3, v => if x2 ≤ x3 then (((-1 : Int32), v)) else (f_X7_firstFailure_16 b2 (fun x2 x3 v => f_X7_firstFailure_7 b2  n x2 x3 v) x2 x3 ((f_X7_readCommand  v).1) (f_X7_readCommand  v).2)
def p_X7_firstFailure_7 (b2 : Nat) : Nat → Int32 → Int32 → gV → Prop
  | 0, _, _, _ => False
  | n + 1, x2, x3, v => ((x2 ≤ x3) → (True)) ∧ (¬ (x2 ≤ x3) → ((p_X7_readCommand  v) ∧ (p_X7_firstFailure_16 b2 (fun x2 x3 v => f_X7_firstFailure_7 b2  n x2 x3 v) (fun x2 x3 v => p_X7_firstFailure_7 b2   n x2 x3 v) x2 x3 ((f_X7_readCommand  v).1) (f_X7_readCommand  v).2)))
set_option maxHeartbeats 4000000 in
set_option maxRecDepth 100000 in
theorem w_X7_firstFailure_7 {E : gE} {d : Nat} {Q : gO → gS → Prop} (b2 : Nat) (hb2 : isBk b2) (hd : 13 ≤ d) : ∀ (n : Nat) (x2 : Int32) (x3 : Int32) (v : gV), p_X7_firstFailure_7 b2   n x2 x3 v → gqIV Q (f_X7_firstFailure_7 b2  n x2 x3 v) → gG E m_X7_firstFailure d Q (5 * n) (30 * n) (rS v) 7 [(0, .ref (gX E + 553)), (1, .ref (gX E + b2)), (2, .int x2), (3, .int x3)] [] := by
  intro n
  induction n with
  | zero => intro x2 x3 v hp; exact hp.elim
  | succ n ih =>
    intro x2 x3 v hp hQ
    refine g_iload_n 3 dX7_firstFailure_7 rfl ?_
    refine g_iload_n 2 dX7_firstFailure_8 rfl ?_
    refine g_icmp_ge 45 dX7_firstFailure_9 (by decide) (fun h1 => ?_) (fun h1 => ?_)
    · have hQ := qp (P := gqIV Q) h1 hQ
      have hp := hp.1 h1
      refine g_iconst dX7_firstFailure_45 (-1 : Int32) (by decide) ?_
      exact g_iret rfl dX7_firstFailure_46 hQ
    · have hQ := qn (P := gqIV Q) h1 hQ
      have hp := hp.2 h1
      refine g_aload_n 0 dX7_firstFailure_12 rfl ?_
      obtain ⟨h2, hp⟩ := hp
      refine g_callV (rest := []) s_X7_45_X7 rfl (c_X7_readCommand (E := E) (d := d - 1)   (by omega)  v h2) (by decide : kd 553 = (0, 5)) (show 553 < 572 by decide) rfl rfl (Nat.le_of_ble_eq_true rfl) (by omega) (by omega) (by omega) dX7_firstFailure_13 (adV ?_) axN
      refine g_room (k' := (5 * n + 5)) (n' := (30 * n + 30)) (by omega) (by omega) ?_
      exact w_X7_firstFailure_16 n b2 hb2 hd (fun x2 x3 v => f_X7_firstFailure_7 b2  n x2 x3 v) (fun x2 x3 v => p_X7_firstFailure_7 b2   n x2 x3 v) ih x2 x3 ((f_X7_readCommand  v).1) (f_X7_readCommand  v).2 hp hQ
def f_X7_firstFailure_5 (b2 : Nat) (x2 : Int32) (v : gV) : Int32 × gV := f_X7_firstFailure_7 b2  64 x2 (0 : Int32) v
def p_X7_firstFailure_5 (b2 : Nat) (x2 : Int32) (v : gV) : Prop := p_X7_firstFailure_7 b2   64 x2 (0 : Int32) v
set_option maxHeartbeats 4000000 in
set_option maxRecDepth 100000 in
theorem w_X7_firstFailure_5 {E : gE} {d : Nat} {Q : gO → gS → Prop} (b2 : Nat) (hb2 : isBk b2) (hd : 13 ≤ d) (x2 : Int32) (v : gV) (hp : p_X7_firstFailure_5 b2   x2 v) (hQ : gqIV Q (f_X7_firstFailure_5 b2  x2 v)) : gG E m_X7_firstFailure d Q 320 1920 (rS v) 5 [(0, .ref (gX E + 553)), (1, .ref (gX E + b2)), (2, .int x2)] [] := by
  refine g_iconst dX7_firstFailure_5 (0 : Int32) (by decide) ?_
  refine g_istore_n [(3, .int ((0 : Int32))), (0, .ref (gX E + 553)), (1, .ref (gX E + b2)), (2, .int x2)] dX7_firstFailure_6 rfl (by decide) rfl ?_
  refine g_room (k' := (5 * 64)) (n' := (30 * 64)) (by omega) (by omega) ?_
  refine g_lv (lv' := [(0, .ref (gX E + 553)), (1, .ref (gX E + b2)), (2, .int x2), (3, .int ((0 : Int32)))]) [1, 2, 3, 0] rfl ?_
  exact w_X7_firstFailure_7 b2 hb2 hd    64 x2 (0 : Int32) v hp hQ
def f_X7_firstFailure_0 (b2 : Nat) (x2 : Int32) (v : gV) : Int32 × gV := f_X7_firstFailure_5 b2  x2 (vM v 553 3 (0 : Int32))
def p_X7_firstFailure_0 (b2 : Nat) (x2 : Int32) (v : gV) : Prop := p_X7_firstFailure_5 b2   x2 (vM v 553 3 (0 : Int32))
set_option maxHeartbeats 4000000 in
set_option maxRecDepth 100000 in
theorem w_X7_firstFailure_0 {E : gE} {d : Nat} {Q : gO → gS → Prop} (b2 : Nat) (hb2 : isBk b2) (hd : 13 ≤ d) (x2 : Int32) (v : gV) (hp : p_X7_firstFailure_0 b2   x2 v) (hQ : gqIV Q (f_X7_firstFailure_0 b2  x2 v)) : gG E m_X7_firstFailure d Q 320 1920 (rS v) 0 [(0, .ref (gX E + 553)), (1, .ref (gX E + b2)), (2, .int x2)] [] := by
  refine g_aload_n 0 dX7_firstFailure_0 rfl ?_
  refine g_iconst dX7_firstFailure_1 (0 : Int32) (by decide) ?_
  refine r_putS pf_X7_41_X7 rfl dX7_firstFailure_2 ?_
  refine g_room (k' := 320) (n' := 1920) (by omega) (by omega) ?_
  exact w_X7_firstFailure_5 b2 hb2 hd    x2 (vM v 553 3 (0 : Int32)) hp hQ
def f_X7_firstFailure (b2 : Nat) (x2 : Int32) (v : gV) : Int32 × gV := f_X7_firstFailure_0 b2 x2 v
def p_X7_firstFailure (b2 : Nat) (x2 : Int32) (v : gV) : Prop := p_X7_firstFailure_0 b2 x2 v
theorem c_X7_firstFailure {E : gE} {d : Nat} (b2 : Nat) (hb2 : isBk b2) (hd : 13 ≤ d) (x2 : Int32) (v : gV) (hp : p_X7_firstFailure b2 x2 v) : CT E m_X7_firstFailure d 320 1920 [.ref (gX E + 553), .ref (gX E + b2), .int x2] (rS v) (Cq (.inl (some (.int ((f_X7_firstFailure b2 x2 v).1)))) (f_X7_firstFailure b2 x2 v).2) := CT.of ok_X7_firstFailure rfl (Nat.le_of_ble_eq_true rfl) (w_X7_firstFailure_0 b2 hb2 hd x2 v hp ⟨rfl, rfl⟩)
def f_X11_runScript_108  (s0 : Int32) (v : gV) : (Int32 ⊕ String) × gV := (Sum.inl s0, v)
def p_X11_runScript_108  (s0 : Int32) (v : gV) : Prop := True
set_option maxHeartbeats 4000000 in
set_option maxRecDepth 100000 in
theorem w_X11_runScript_108 {E : gE} {d : Nat} {Q : gO → gS → Prop}   (hd : 14 ≤ d) (s0 : Int32) (v : gV) (hp : p_X11_runScript_108   s0 v) (hQ : gqTIV Q (f_X11_runScript_108  s0 v)) : gG E m_X11_runScript d Q 0 0 (rS v) 108 [] [.int s0] := by
  exact g_iret rfl dX11_runScript_108 hQ
def f_X11_runScript_92   (v : gV) : (Int32 ⊕ String) × gV := (Sum.inr "java/lang/IllegalStateException", v)
def p_X11_runScript_92   (v : gV) : Prop := True
set_option maxHeartbeats 4000000 in
set_option maxRecDepth 100000 in
theorem w_X11_runScript_92 {E : gE} {d : Nat} {Q : gO → gS → Prop}   (hd : 14 ≤ d)  (v : gV) (hp : p_X11_runScript_92    v) (hQ : gqTIV Q (f_X11_runScript_92   v)) : gG E m_X11_runScript d Q 1 6 (rS v) 92 [] [] := by
  exact g_throwSW rfl t_X11_324_326 rfl rfl rfl (by omega) (by decide) (by decide) (Nat.le_of_ble_eq_true rfl) dX11_runScript_92 dX11_runScript_95 dX11_runScript_96 dX11_runScript_99 dX11_runScript_102 hQ
def f_X11_runScript_87  (x2 : Int32) (v : gV) : (Int32 ⊕ String) × gV := f_X11_runScript_92   (vM v 0 7 x2)
def p_X11_runScript_87  (x2 : Int32) (v : gV) : Prop := p_X11_runScript_92    (vM v 0 7 x2)
set_option maxHeartbeats 4000000 in
set_option maxRecDepth 100000 in
theorem w_X11_runScript_87 {E : gE} {d : Nat} {Q : gO → gS → Prop}   (hd : 14 ≤ d) (x2 : Int32) (v : gV) (hp : p_X11_runScript_87   x2 v) (hQ : gqTIV Q (f_X11_runScript_87  x2 v)) : gG E m_X11_runScript d Q 1 6 (rS v) 87 [(0, .ref (gX E + 0)), (2, .int x2)] [] := by
  refine g_aload_n 0 dX11_runScript_87 rfl ?_
  refine g_iload_n 1 dX11_runScript_88 rfl ?_
  refine r_put pf_X11_48_X11 rfl (by decide : kd 0 = (0, 8)) (by decide) (by decide) rfl (show 0 < 572 by decide) rfl rfl dX11_runScript_89 ?_
  refine g_lv (lv' := []) [] rfl ?_
  exact w_X11_runScript_92  hd     (vM v 0 7 x2) hp hQ
def f_X11_runScript_72  (x1 : Int32) (x2 : Int32) (v : gV) : (Int32 ⊕ String) × gV := if x2 < 0 then (f_X11_runScript_108  ((f_X11_changed x1 v).1) (f_X11_changed x1 v).2) else (f_X11_runScript_87  x2 (f_X3_bringBack 1 v))
def p_X11_runScript_72  (x1 : Int32) (x2 : Int32) (v : gV) : Prop := ((x2 < 0) → ((p_X11_changed x1 v) ∧ (p_X11_runScript_108   ((f_X11_changed x1 v).1) (f_X11_changed x1 v).2))) ∧ (¬ (x2 < 0) → ((p_X3_bringBack 1 v) ∧ (p_X11_runScript_87   x2 (f_X3_bringBack 1 v))))
set_option maxHeartbeats 4000000 in
set_option maxRecDepth 100000 in
theorem w_X11_runScript_72 {E : gE} {d : Nat} {Q : gO → gS → Prop}   (hd : 14 ≤ d) (x1 : Int32) (x2 : Int32) (v : gV) (hp : p_X11_runScript_72   x1 x2 v) (hQ : gqTIV Q (f_X11_runScript_72  x1 x2 v)) : gG E m_X11_runScript d Q 1 6 (rS v) 72 [(0, .ref (gX E + 0)), (1, .int x1), (2, .int x2)] [] := by
  refine g_iload_n 2 dX11_runScript_72 rfl ?_
  refine g_if_lt 103 dX11_runScript_73 (by decide) (fun h6 => ?_) (fun h6 => ?_)
  · have hQ := qp (P := gqTIV Q) h6 hQ
    have hp := hp.1 h6
    refine g_aload_n 0 dX11_runScript_103 rfl ?_
    refine g_iload_n 1 dX11_runScript_104 rfl ?_
    obtain ⟨h7, hp⟩ := hp
    refine g_callV (rest := []) s_X11_59_X11 rfl (c_X11_changed (E := E) (d := d - 1)   (by omega) x1 v h7) (by decide : kd 0 = (0, 8)) (show 0 < 572 by decide) rfl rfl (Nat.le_of_ble_eq_true rfl) (by omega) (by decide) (by decide) dX11_runScript_105 (adV ?_) axN
    refine g_room (k' := 0) (n' := 0) (by decide) (by decide) ?_
    refine g_lv (lv' := []) [] rfl ?_
    exact w_X11_runScript_108  hd    ((f_X11_changed x1 v).1) (f_X11_changed x1 v).2 hp hQ
  · have hQ := qn (P := gqTIV Q) h6 hQ
    have hp := hp.2 h6
    refine g_aload_n 0 dX11_runScript_76 rfl ?_
    refine r_get (.ref (gX E + 101)) f_X11_22_X11 rfl (by decide : kd 0 = (0, 8)) (show 0 < 572 by decide) dX11_runScript_77 (fun _ => rfl) ?_
    refine g_aload_n 0 dX11_runScript_80 rfl ?_
    refine r_get (.ref (gX E + 1)) f_X11_10_X11 rfl (by decide : kd 0 = (0, 8)) (show 0 < 572 by decide) dX11_runScript_81 (fun _ => rfl) ?_
    obtain ⟨h8, hp⟩ := hp
    refine g_callV (rest := []) s_X11_321_X3 rfl (c_X3_bringBack (E := E) (d := d - 1) 1 isBk_1 (by omega)  v h8) (by decide : kd 101 = (0, 2)) (show 101 < 572 by decide) rfl rfl (Nat.le_of_ble_eq_true rfl) (by omega) (by decide) (by decide) dX11_runScript_84 (adN ?_) axN
    refine g_lv (lv' := [(0, .ref (gX E + 0)), (2, .int x2)]) [0, 2] rfl ?_
    exact w_X11_runScript_87  hd    x2 (f_X3_bringBack 1 v) hp hQ
def f_X11_runScript_64  (x1 : Int32) (s0 : Int32) (v : gV) : (Int32 ⊕ String) × gV := f_X11_runScript_72  x1 s0 (f_X7_empty  v)
def p_X11_runScript_64  (x1 : Int32) (s0 : Int32) (v : gV) : Prop := (p_X7_empty  v) ∧ (p_X11_runScript_72   x1 s0 (f_X7_empty  v))
set_option maxHeartbeats 4000000 in
set_option maxRecDepth 100000 in
theorem w_X11_runScript_64 {E : gE} {d : Nat} {Q : gO → gS → Prop}   (hd : 14 ≤ d) (x1 : Int32) (s0 : Int32) (v : gV) (hp : p_X11_runScript_64   x1 s0 v) (hQ : gqTIV Q (f_X11_runScript_64  x1 s0 v)) : gG E m_X11_runScript d Q 2 262 (rS v) 64 [(0, .ref (gX E + 0)), (1, .int x1)] [.int s0] := by
  refine g_istore_n [(2, .int s0), (0, .ref (gX E + 0)), (1, .int x1)] dX11_runScript_64 rfl (by decide) rfl ?_
  refine g_aload_n 1 dX11_runScript_65 rfl ?_
  refine r_get (.ref (gX E + 553)) f_X11_29_X11 rfl (by decide : kd 0 = (0, 8)) (show 0 < 572 by decide) dX11_runScript_66 (fun _ => rfl) ?_
  obtain ⟨h5, hp⟩ := hp
  refine g_callV (rest := []) s_X11_309_X7 rfl (c_X7_empty (E := E) (d := d - 1)   (by omega)  v h5) (by decide : kd 553 = (0, 5)) (show 553 < 572 by decide) rfl rfl (Nat.le_of_ble_eq_true rfl) (by omega) (by decide) (by decide) dX11_runScript_69 (adN ?_) axN
  refine g_lv (lv' := [(0, .ref (gX E + 0)), (1, .int x1), (2, .int s0)]) [1, 2, 0] rfl ?_
  exact w_X11_runScript_72  hd    x1 s0 (f_X7_empty  v) hp hQ
def f_X11_runScript_52  (x1 : Int32) (v : gV) : (Int32 ⊕ String) × gV := f_X11_runScript_64  x1 ((f_X7_firstFailure 1 x1 v).1) (f_X7_firstFailure 1 x1 v).2
def p_X11_runScript_52  (x1 : Int32) (v : gV) : Prop := (p_X7_firstFailure 1 x1 v) ∧ (p_X11_runScript_64   x1 ((f_X7_firstFailure 1 x1 v).1) (f_X7_firstFailure 1 x1 v).2)
set_option maxHeartbeats 4000000 in
set_option maxRecDepth 100000 in
theorem w_X11_runScript_52 {E : gE} {d : Nat} {Q : gO → gS → Prop}   (hd : 14 ≤ d) (x1 : Int32) (v : gV) (hp : p_X11_runScript_52   x1 v) (hQ : gqTIV Q (f_X11_runScript_52  x1 v)) : gG E m_X11_runScript d Q 322 2182 (rS v) 52 [(0, .ref (gX E + 0)), (1, .int x1)] [] := by
  refine g_aload_n 0 dX11_runScript_52 rfl ?_
  refine r_get (.ref (gX E + 553)) f_X11_29_X11 rfl (by decide : kd 0 = (0, 8)) (show 0 < 572 by decide) dX11_runScript_53 (fun _ => rfl) ?_
  refine g_aload_n 0 dX11_runScript_56 rfl ?_
  refine r_get (.ref (gX E + 1)) f_X11_10_X11 rfl (by decide : kd 0 = (0, 8)) (show 0 < 572 by decide) dX11_runScript_57 (fun _ => rfl) ?_
  refine g_iload_n 1 dX11_runScript_60 rfl ?_
  obtain ⟨h4, hp⟩ := hp
  refine g_callV (rest := []) s_X11_317_X7 rfl (c_X7_firstFailure (E := E) (d := d - 1) 1 isBk_1 (by omega) x1 v h4) (by decide : kd 553 = (0, 5)) (show 553 < 572 by decide) rfl rfl (Nat.le_of_ble_eq_true rfl) (by omega) (by decide) (by decide) dX11_runScript_61 (adV ?_) axN
  exact w_X11_runScript_64  hd    x1 ((f_X7_firstFailure 1 x1 v).1) (f_X7_firstFailure 1 x1 v).2 hp hQ
def f_X11_runScript_30   (v : gV) : (Int32 ⊕ String) × gV := (Sum.inr "java/lang/IllegalArgumentException", v)
def p_X11_runScript_30   (v : gV) : Prop := True
set_option maxHeartbeats 4000000 in
set_option maxRecDepth 100000 in
theorem w_X11_runScript_30 {E : gE} {d : Nat} {Q : gO → gS → Prop}   (hd : 14 ≤ d)  (v : gV) (hp : p_X11_runScript_30    v) (hQ : gqTIV Q (f_X11_runScript_30   v)) : gG E m_X11_runScript d Q 1 6 (rS v) 30 [] [] := by
  exact g_throwSW rfl t_X11_312_314 rfl rfl rfl (by omega) (by decide) (by decide) (Nat.le_of_ble_eq_true rfl) dX11_runScript_30 dX11_runScript_33 dX11_runScript_34 dX11_runScript_37 dX11_runScript_40 hQ
def f_X11_runScript_23   (v : gV) : (Int32 ⊕ String) × gV := f_X11_runScript_30   (f_X7_empty  v)
def p_X11_runScript_23   (v : gV) : Prop := (p_X7_empty  v) ∧ (p_X11_runScript_30    (f_X7_empty  v))
set_option maxHeartbeats 4000000 in
set_option maxRecDepth 100000 in
theorem w_X11_runScript_23 {E : gE} {d : Nat} {Q : gO → gS → Prop}   (hd : 14 ≤ d)  (v : gV) (hp : p_X11_runScript_23    v) (hQ : gqTIV Q (f_X11_runScript_23   v)) : gG E m_X11_runScript d Q 2 262 (rS v) 23 [(0, .ref (gX E + 0))] [] := by
  refine g_aload_n 0 dX11_runScript_23 rfl ?_
  refine r_get (.ref (gX E + 553)) f_X11_29_X11 rfl (by decide : kd 0 = (0, 8)) (show 0 < 572 by decide) dX11_runScript_24 (fun _ => rfl) ?_
  obtain ⟨h9, hp⟩ := hp
  refine g_callV (rest := []) s_X11_309_X7 rfl (c_X7_empty (E := E) (d := d - 1)   (by omega)  v h9) (by decide : kd 553 = (0, 5)) (show 553 < 572 by decide) rfl rfl (Nat.le_of_ble_eq_true rfl) (by omega) (by decide) (by decide) dX11_runScript_27 (adN ?_) axN
  refine g_lv (lv' := []) [] rfl ?_
  exact w_X11_runScript_30  hd     (f_X7_empty  v) hp hQ
def f_X11_runScript_7  (s0 : Int32) (v : gV) : (Int32 ⊕ String) × gV := if 0 ≤ s0 then (f_X11_runScript_52  s0 (f_X3_prepare 1 v)) else (f_X11_runScript_23   (vM v 0 6 (v.1 553 3)))
def p_X11_runScript_7  (s0 : Int32) (v : gV) : Prop := ((0 ≤ s0) → ((p_X3_prepare 1 v) ∧ (p_X11_runScript_52   s0 (f_X3_prepare 1 v)))) ∧ (¬ (0 ≤ s0) → (p_X11_runScript_23    (vM v 0 6 (v.1 553 3))))
set_option maxHeartbeats 4000000 in
set_option maxRecDepth 100000 in
theorem w_X11_runScript_7 {E : gE} {d : Nat} {Q : gO → gS → Prop}   (hd : 14 ≤ d) (s0 : Int32) (v : gV) (hp : p_X11_runScript_7   s0 v) (hQ : gqTIV Q (f_X11_runScript_7  s0 v)) : gG E m_X11_runScript d Q 322 2182 (rS v) 7 [(0, .ref (gX E + 0))] [.int s0] := by
  refine g_istore_n [(1, .int s0), (0, .ref (gX E + 0))] dX11_runScript_7 rfl (by decide) rfl ?_
  refine g_iload_n 0 dX11_runScript_8 rfl ?_
  refine g_if_ge 41 dX11_runScript_9 (by decide) (fun h2 => ?_) (fun h2 => ?_)
  · have hQ := qp (P := gqTIV Q) h2 hQ
    have hp := hp.1 h2
    refine g_aload_n 1 dX11_runScript_41 rfl ?_
    refine r_get (.ref (gX E + 101)) f_X11_22_X11 rfl (by decide : kd 0 = (0, 8)) (show 0 < 572 by decide) dX11_runScript_42 (fun _ => rfl) ?_
    refine g_aload_n 1 dX11_runScript_45 rfl ?_
    refine r_get (.ref (gX E + 1)) f_X11_10_X11 rfl (by decide : kd 0 = (0, 8)) (show 0 < 572 by decide) dX11_runScript_46 (fun _ => rfl) ?_
    obtain ⟨h3, hp⟩ := hp
    refine g_callV (rest := []) s_X11_51_X3 rfl (c_X3_prepare (E := E) (d := d - 1) 1 isBk_1 (by omega)  v h3) (by decide : kd 101 = (0, 2)) (show 101 < 572 by decide) rfl rfl (Nat.le_of_ble_eq_true rfl) (by omega) (by decide) (by decide) dX11_runScript_49 (adN ?_) axN
    refine g_lv (lv' := [(0, .ref (gX E + 0)), (1, .int s0)]) [1, 0] rfl ?_
    exact w_X11_runScript_52  hd    s0 (f_X3_prepare 1 v) hp hQ
  · have hQ := qn (P := gqTIV Q) h2 hQ
    have hp := hp.2 h2
    refine g_aload_n 1 dX11_runScript_12 rfl ?_
    refine g_aload_n 1 dX11_runScript_13 rfl ?_
    refine r_get (.ref (gX E + 553)) f_X11_29_X11 rfl (by decide : kd 0 = (0, 8)) (show 0 < 572 by decide) dX11_runScript_14 (fun _ => rfl) ?_
    refine r_getN (.int (v.1 553 3)) fN_X11_306_X7 rfl (by decide : kd 553 = (0, 5)) (show 553 < 572 by decide) dX11_runScript_17 (fun _ => rfl) ?_
    refine r_put pf_X11_44_X11 rfl (by decide : kd 0 = (0, 8)) (by decide) (by decide) rfl (show 0 < 572 by decide) rfl rfl dX11_runScript_20 ?_
    refine g_room (k' := 2) (n' := 262) (by decide) (by decide) ?_
    refine g_lv (lv' := [(0, .ref (gX E + 0))]) [1] rfl ?_
    exact w_X11_runScript_23  hd     (vM v 0 6 (v.1 553 3)) hp hQ
def f_X11_runScript_0   (v : gV) : (Int32 ⊕ String) × gV := f_X11_runScript_7  ((f_X7_countCommands  v).1) (f_X7_countCommands  v).2
def p_X11_runScript_0   (v : gV) : Prop := (p_X7_countCommands  v) ∧ (p_X11_runScript_7   ((f_X7_countCommands  v).1) (f_X7_countCommands  v).2)
set_option maxHeartbeats 4000000 in
set_option maxRecDepth 100000 in
theorem w_X11_runScript_0 {E : gE} {d : Nat} {Q : gO → gS → Prop}   (hd : 14 ≤ d)  (v : gV) (hp : p_X11_runScript_0    v) (hQ : gqTIV Q (f_X11_runScript_0   v)) : gG E m_X11_runScript d Q 322 2182 (rS v) 0 [(0, .ref (gX E + 0))] [] := by
  refine g_aload_n 0 dX11_runScript_0 rfl ?_
  refine r_get (.ref (gX E + 553)) f_X11_29_X11 rfl (by decide : kd 0 = (0, 8)) (show 0 < 572 by decide) dX11_runScript_1 (fun _ => rfl) ?_
  obtain ⟨h1, hp⟩ := hp
  refine g_callV (rest := []) s_X11_303_X7 rfl (c_X7_countCommands (E := E) (d := d - 1)   (by omega)  v h1) (by decide : kd 553 = (0, 5)) (show 553 < 572 by decide) rfl rfl (Nat.le_of_ble_eq_true rfl) (by omega) (by decide) (by decide) dX11_runScript_4 (adV ?_) axN
  exact w_X11_runScript_7  hd    ((f_X7_countCommands  v).1) (f_X7_countCommands  v).2 hp hQ
def f_X11_runScript   (v : gV) : (Int32 ⊕ String) × gV := f_X11_runScript_0  v
def p_X11_runScript   (v : gV) : Prop := p_X11_runScript_0  v
theorem c_X11_runScript {E : gE} {d : Nat}   (hd : 14 ≤ d)  (v : gV) (hp : p_X11_runScript  v) : CT E m_X11_runScript d 322 2182 [.ref (gX E + 0)] (rS v) (Cq (gOi (f_X11_runScript  v).1) (f_X11_runScript  v).2) := CT.of ok_X11_runScript rfl (Nat.le_of_ble_eq_true rfl) (w_X11_runScript_0  hd  v hp ⟨rfl, rfl⟩)
def f_L_runScript_8   (v : gV) : Int32 × gV := ((0 : Int32), v)
def p_L_runScript_8   (v : gV) : Prop := True
set_option maxHeartbeats 4000000 in
set_option maxRecDepth 100000 in
theorem w_L_runScript_8 {E : gE} {d : Nat} {Q : gO → gS → Prop}   (hd : 15 ≤ d)  (v : gV) (hp : p_L_runScript_8    v) (hQ : gqIV Q (f_L_runScript_8   v)) : gG E m_L_runScript d Q 0 0 (rS v) 8 [] [] := by
  refine g_goto 17 dL_runScript_8 (by decide) ?_
  refine g_iconst dL_runScript_17 (0 : Int32) (by decide) ?_
  exact g_iret rfl dL_runScript_18 hQ
def f_L_runScript_6  (s0 : Int32) (s1 : Int32) (v : gV) : Int32 × gV := f_L_runScript_8   (vL v 570 s1.toNatClampNeg s0.toInt64)
def p_L_runScript_6  (s0 : Int32) (s1 : Int32) (v : gV) : Prop := (vp_in s1 1) ∧ (p_L_runScript_8    (vL v 570 s1.toNatClampNeg s0.toInt64))
set_option maxHeartbeats 4000000 in
set_option maxRecDepth 100000 in
theorem w_L_runScript_6 {E : gE} {d : Nat} {Q : gO → gS → Prop}   (hd : 15 ≤ d) (s0 : Int32) (s1 : Int32) (v : gV) (hp : p_L_runScript_6   s0 s1 v) (hQ : gqIV Q (f_L_runScript_6  s0 s1 v)) : gG E m_L_runScript d Q 0 0 (rS v) 6 [] [.int s0, .int s1, .ref (gX E + 570)] := by
  refine g_i2l dL_runScript_6 ?_
  obtain ⟨h4, hp⟩ := hp
  refine r_last (by decide : kd 570 = (3, 1)) (show 570 < 572 by decide) h4 dL_runScript_7 ?_
  exact w_L_runScript_8  hd     (vL v 570 s1.toNatClampNeg s0.toInt64) hp hQ
def f_L_runScript_12   (v : gV) : Int32 × gV := ((1 : Int32), v)
def p_L_runScript_12   (v : gV) : Prop := True
set_option maxHeartbeats 4000000 in
set_option maxRecDepth 100000 in
theorem w_L_runScript_12 {E : gE} {d : Nat} {Q : gO → gS → Prop}   (hd : 15 ≤ d)  (v : gV) (hp : p_L_runScript_12    v) (hQ : gqIV Q (f_L_runScript_12   v)) : gG E m_L_runScript d Q 0 0 (rS v) 12 [] [] := by
  refine g_iconst dL_runScript_12 (1 : Int32) (by decide) ?_
  exact g_iret rfl dL_runScript_13 hQ
def f_L_runScript_15   (v : gV) : Int32 × gV := ((2 : Int32), v)
def p_L_runScript_15   (v : gV) : Prop := True
set_option maxHeartbeats 4000000 in
set_option maxRecDepth 100000 in
theorem w_L_runScript_15 {E : gE} {d : Nat} {Q : gO → gS → Prop}   (hd : 15 ≤ d)  (v : gV) (hp : p_L_runScript_15    v) (hQ : gqIV Q (f_L_runScript_15   v)) : gG E m_L_runScript d Q 0 0 (rS v) 15 [] [] := by
  refine g_iconst dL_runScript_15 (2 : Int32) (by decide) ?_
  exact g_iret rfl dL_runScript_16 hQ
def f_L_runScript_0   (v : gV) : Int32 × gV := Sum.elim (fun (sr2 : Int32) => f_L_runScript_6  sr2 (0 : Int32) (f_X11_runScript  v).2) (fun (e : String) => if e = "java/lang/IllegalArgumentException" then (f_L_runScript_12   (f_X11_runScript  v).2) else (if e = "java/lang/IllegalStateException" then (f_L_runScript_15   (f_X11_runScript  v).2) else ((0, v)))) (f_X11_runScript  v).1
def p_L_runScript_0   (v : gV) : Prop := (p_X11_runScript  v) ∧ ((∀ (sr2 : Int32), (f_X11_runScript  v).1 = Sum.inl sr2 → (p_L_runScript_6   sr2 (0 : Int32) (f_X11_runScript  v).2)) ∧ (∀ (e : String), (f_X11_runScript  v).1 = Sum.inr e → (((e = "java/lang/IllegalArgumentException") → (p_L_runScript_12    (f_X11_runScript  v).2)) ∧ (¬ (e = "java/lang/IllegalArgumentException") → (((e = "java/lang/IllegalStateException") → (p_L_runScript_15    (f_X11_runScript  v).2)) ∧ (¬ (e = "java/lang/IllegalStateException") → (False)))))))
set_option maxHeartbeats 4000000 in
set_option maxRecDepth 100000 in
theorem w_L_runScript_0 {E : gE} {d : Nat} {Q : gO → gS → Prop}   (hd : 15 ≤ d)  (v : gV) (hp : p_L_runScript_0    v) (hQ : gqIV Q (f_L_runScript_0   v)) : gG E m_L_runScript d Q 322 2182 (rS v) 0 [(0, .ref (gX E + 0)), (1, .ref (gX E + 570))] [] := by
  refine g_aload_n 1 dL_runScript_0 rfl ?_
  refine g_iconst dL_runScript_1 (0 : Int32) (by decide) ?_
  refine g_aload_n 0 dL_runScript_2 rfl ?_
  obtain ⟨h1, hp⟩ := hp
  refine g_callV (rest := [.int ((0 : Int32)), .ref (gX E + 570)]) s_L_167_X11 rfl (c_X11_runScript (E := E) (d := d - 1)   (by omega)  v h1) (by decide : kd 0 = (0, 8)) (show 0 < 572 by decide) rfl rfl (Nat.le_of_ble_eq_true rfl) (by omega) (by decide) (by decide) dL_runScript_3 (adTI (fun sr2 h3 => ?_)) (axTI (fun e h3 => ?_))
  · have hQ := ql (P := gqIV Q) h3 hQ
    have hp := hp.1 sr2 h3
    refine g_lv (lv' := []) [] rfl ?_
    exact w_L_runScript_6  hd    sr2 (0 : Int32) (f_X11_runScript  v).2 hp hQ
  · have hQ := qe (P := gqIV Q) h3 hQ
    have hp := hp.2 e h3
    by_cases h5 : e = "java/lang/IllegalArgumentException"
    · subst h5
      have hQ := qp (P := gqIV Q) rfl hQ
      have hp := hp.1 rfl
      refine g_catch2 [] (0, 8, 11, 13) [(0, 8, 14, 15)] rfl (fun z hz => absurd hz List.not_mem_nil) (by decide) (by decide) w_722 w_753 (fun q => ?_)
      refine g_astore_n [(2, .ref q), (0, .ref (gX E + 0)), (1, .ref (gX E + 570))] dL_runScript_11 rfl (by decide) rfl ?_
      refine g_lv (lv' := []) [] rfl ?_
      exact w_L_runScript_12  hd     (f_X11_runScript  v).2 hp hQ
    have hQ := qn (P := gqIV Q) h5 hQ
    have hp := hp.2 h5
    by_cases h6 : e = "java/lang/IllegalStateException"
    · subst h6
      have hQ := qp (P := gqIV Q) rfl hQ
      have hp := hp.1 rfl
      refine g_catch2 [(0, 8, 11, 13)] (0, 8, 14, 15) [] rfl (List.forall_mem_cons.mpr ⟨⟨by decide, "java/lang/IllegalArgumentException", w_722, fun s hK => gnc (by decide +kernel) hK⟩, (fun z hz => absurd hz List.not_mem_nil)⟩) (by decide) (by decide) w_723 w_834 (fun q => ?_)
      refine g_astore_n [(2, .ref q), (0, .ref (gX E + 0)), (1, .ref (gX E + 570))] dL_runScript_14 rfl (by decide) rfl ?_
      refine g_lv (lv' := []) [] rfl ?_
      exact w_L_runScript_15  hd     (f_X11_runScript  v).2 hp hQ
    have hQ := qn (P := gqIV Q) h6 hQ
    have hp := hp.2 h6
    exact hp.elim
def f_L_runScript   (v : gV) : Int32 × gV := f_L_runScript_0  v
def p_L_runScript   (v : gV) : Prop := p_L_runScript_0  v
theorem c_L_runScript {E : gE} {d : Nat}   (hd : 15 ≤ d)  (v : gV) (hp : p_L_runScript  v) : CT E m_L_runScript d 322 2182 [.ref (gX E + 0), .ref (gX E + 570)] (rS v) (Cq (.inl (some (.int ((f_L_runScript  v).1)))) (f_L_runScript  v).2) := CT.ofH ok_L_runScript rfl (Nat.le_of_ble_eq_true rfl) (w_L_runScript_0  hd  v hp ⟨rfl, rfl⟩)
