def f_X12_offers_54   (v : gV) : Int32 × gV := ((v.1 560 (3 : Int32).toNatClampNeg) - (1 : Int32), v)
def p_X12_offers_54   (v : gV) : Prop := True
set_option maxHeartbeats 4000000 in
set_option maxRecDepth 100000 in
theorem w_X12_offers_54 {E : gE} {d : Nat} {Q : gO → gS → Prop}   (hd : 0 ≤ d)  (v : gV) (hp : p_X12_offers_54    v) (hQ : gqIV Q (f_X12_offers_54   v)) : gG E m_X12_offers d Q 0 0 (rS v) 54 [(0, .ref (gX E + 559))] [] := by
  refine g_aload_n 0 dX12_offers_54 rfl ?_
  refine r_get (.ref (gX E + 560)) f_X12_7_X12 rfl (by decide : kd 559 = (0, 9)) (show 559 < 572 by decide) dX12_offers_55 (fun _ => rfl) ?_
  refine g_iconst dX12_offers_58 (3 : Int32) (by decide) ?_
  refine g_iald (by decide : kd 560 = (1, 300)) (show 560 < 572 by decide) (show ¬ (_ ∨ _) by decide) dX12_offers_59 ?_
  refine g_iconst dX12_offers_60 (1 : Int32) (by decide) ?_
  refine g_isub dX12_offers_61 ?_
  exact g_iret rfl dX12_offers_62 hQ
def f_X12_offers_44   (v : gV) : Int32 × gV := f_X12_offers_54   (vM v 560 (3 : Int32).toNatClampNeg ((v.1 560 (3 : Int32).toNatClampNeg) + (1 : Int32)))
def p_X12_offers_44   (v : gV) : Prop := p_X12_offers_54    (vM v 560 (3 : Int32).toNatClampNeg ((v.1 560 (3 : Int32).toNatClampNeg) + (1 : Int32)))
set_option maxHeartbeats 4000000 in
set_option maxRecDepth 100000 in
theorem w_X12_offers_44 {E : gE} {d : Nat} {Q : gO → gS → Prop}   (hd : 0 ≤ d)  (v : gV) (hp : p_X12_offers_44    v) (hQ : gqIV Q (f_X12_offers_44   v)) : gG E m_X12_offers d Q 0 0 (rS v) 44 [(0, .ref (gX E + 559))] [] := by
  refine g_aload_n 0 dX12_offers_44 rfl ?_
  refine r_get (.ref (gX E + 560)) f_X12_7_X12 rfl (by decide : kd 559 = (0, 9)) (show 559 < 572 by decide) dX12_offers_45 (fun _ => rfl) ?_
  refine g_iconst dX12_offers_48 (3 : Int32) (by decide) ?_
  refine g_dup2 dX12_offers_49 rfl rfl ?_
  refine g_iald (by decide : kd 560 = (1, 300)) (show 560 < 572 by decide) (show ¬ (_ ∨ _) by decide) dX12_offers_50 ?_
  refine g_iconst dX12_offers_51 (1 : Int32) (by decide) ?_
  refine g_iadd dX12_offers_52 ?_
  refine r_iast (by decide : kd 560 = (1, 300)) (show 560 < 572 by decide) (show ¬ (_ ∨ _) by decide) dX12_offers_53 ?_
  exact w_X12_offers_54  hd     (vM v 560 (3 : Int32).toNatClampNeg ((v.1 560 (3 : Int32).toNatClampNeg) + (1 : Int32))) hp hQ
def f_X12_offers_34  (x3 : Int32) (x4 : Int32) (v : gV) : Int32 × gV := f_X12_offers_44   (vM v 560 (x4 + (2 : Int32)).toNatClampNeg x3)
def p_X12_offers_34  (x3 : Int32) (x4 : Int32) (v : gV) : Prop := (vp_in (x4 + (2 : Int32)) 300) ∧ (p_X12_offers_44    (vM v 560 (x4 + (2 : Int32)).toNatClampNeg x3))
set_option maxHeartbeats 4000000 in
set_option maxRecDepth 100000 in
theorem w_X12_offers_34 {E : gE} {d : Nat} {Q : gO → gS → Prop}   (hd : 0 ≤ d) (x3 : Int32) (x4 : Int32) (v : gV) (hp : p_X12_offers_34   x3 x4 v) (hQ : gqIV Q (f_X12_offers_34  x3 x4 v)) : gG E m_X12_offers d Q 0 0 (rS v) 34 [(0, .ref (gX E + 559)), (3, .int x3), (4, .int x4)] [] := by
  refine g_aload_n 0 dX12_offers_34 rfl ?_
  refine r_get (.ref (gX E + 560)) f_X12_7_X12 rfl (by decide : kd 559 = (0, 9)) (show 559 < 572 by decide) dX12_offers_35 (fun _ => rfl) ?_
  refine g_iload 2 dX12_offers_38 rfl ?_
  refine g_iconst dX12_offers_40 (2 : Int32) (by decide) ?_
  refine g_iadd dX12_offers_41 ?_
  refine g_iload_n 1 dX12_offers_42 rfl ?_
  obtain ⟨h3, hp⟩ := hp
  refine r_iast (by decide : kd 560 = (1, 300)) (show 560 < 572 by decide) h3 dX12_offers_43 ?_
  refine g_lv (lv' := [(0, .ref (gX E + 559))]) [0] rfl ?_
  exact w_X12_offers_44  hd     (vM v 560 (x4 + (2 : Int32)).toNatClampNeg x3) hp hQ
def f_X12_offers_24  (x2 : Int32) (x3 : Int32) (x4 : Int32) (v : gV) : Int32 × gV := f_X12_offers_34  x3 x4 (vM v 560 (x4 + (1 : Int32)).toNatClampNeg x2)
def p_X12_offers_24  (x2 : Int32) (x3 : Int32) (x4 : Int32) (v : gV) : Prop := (vp_in (x4 + (1 : Int32)) 300) ∧ (p_X12_offers_34   x3 x4 (vM v 560 (x4 + (1 : Int32)).toNatClampNeg x2))
set_option maxHeartbeats 4000000 in
set_option maxRecDepth 100000 in
theorem w_X12_offers_24 {E : gE} {d : Nat} {Q : gO → gS → Prop}   (hd : 0 ≤ d) (x2 : Int32) (x3 : Int32) (x4 : Int32) (v : gV) (hp : p_X12_offers_24   x2 x3 x4 v) (hQ : gqIV Q (f_X12_offers_24  x2 x3 x4 v)) : gG E m_X12_offers d Q 0 0 (rS v) 24 [(0, .ref (gX E + 559)), (2, .int x2), (3, .int x3), (4, .int x4)] [] := by
  refine g_aload_n 0 dX12_offers_24 rfl ?_
  refine r_get (.ref (gX E + 560)) f_X12_7_X12 rfl (by decide : kd 559 = (0, 9)) (show 559 < 572 by decide) dX12_offers_25 (fun _ => rfl) ?_
  refine g_iload 3 dX12_offers_28 rfl ?_
  refine g_iconst dX12_offers_30 (1 : Int32) (by decide) ?_
  refine g_iadd dX12_offers_31 ?_
  refine g_iload_n 1 dX12_offers_32 rfl ?_
  obtain ⟨h2, hp⟩ := hp
  refine r_iast (by decide : kd 560 = (1, 300)) (show 560 < 572 by decide) h2 dX12_offers_33 ?_
  refine g_lv (lv' := [(0, .ref (gX E + 559)), (3, .int x3), (4, .int x4)]) [0, 2, 3] rfl ?_
  exact w_X12_offers_34  hd    x3 x4 (vM v 560 (x4 + (1 : Int32)).toNatClampNeg x2) hp hQ
def f_X12_offers_0  (x1 : Int32) (x2 : Int32) (x3 : Int32) (v : gV) : Int32 × gV := f_X12_offers_24  x2 x3 ((232 : Int32) + ((4 : Int32) * (v.1 560 (3 : Int32).toNatClampNeg))) (vM v 560 (((232 : Int32) + ((4 : Int32) * (v.1 560 (3 : Int32).toNatClampNeg))) + (0 : Int32)).toNatClampNeg x1)
def p_X12_offers_0  (x1 : Int32) (x2 : Int32) (x3 : Int32) (v : gV) : Prop := (vp_in (((232 : Int32) + ((4 : Int32) * (v.1 560 (3 : Int32).toNatClampNeg))) + (0 : Int32)) 300) ∧ (p_X12_offers_24   x2 x3 ((232 : Int32) + ((4 : Int32) * (v.1 560 (3 : Int32).toNatClampNeg))) (vM v 560 (((232 : Int32) + ((4 : Int32) * (v.1 560 (3 : Int32).toNatClampNeg))) + (0 : Int32)).toNatClampNeg x1))
set_option maxHeartbeats 4000000 in
set_option maxRecDepth 100000 in
theorem w_X12_offers_0 {E : gE} {d : Nat} {Q : gO → gS → Prop}   (hd : 0 ≤ d) (x1 : Int32) (x2 : Int32) (x3 : Int32) (v : gV) (hp : p_X12_offers_0   x1 x2 x3 v) (hQ : gqIV Q (f_X12_offers_0  x1 x2 x3 v)) : gG E m_X12_offers d Q 0 0 (rS v) 0 [(0, .ref (gX E + 559)), (1, .int x1), (2, .int x2), (3, .int x3)] [] := by
  refine g_sipush dX12_offers_0 (232 : Int32) (by decide) ?_
  refine g_iconst dX12_offers_3 (4 : Int32) (by decide) ?_
  refine g_aload_n 0 dX12_offers_4 rfl ?_
  refine r_get (.ref (gX E + 560)) f_X12_7_X12 rfl (by decide : kd 559 = (0, 9)) (show 559 < 572 by decide) dX12_offers_5 (fun _ => rfl) ?_
  refine g_iconst dX12_offers_8 (3 : Int32) (by decide) ?_
  refine g_iald (by decide : kd 560 = (1, 300)) (show 560 < 572 by decide) (show ¬ (_ ∨ _) by decide) dX12_offers_9 ?_
  refine g_imul dX12_offers_10 ?_
  refine g_iadd dX12_offers_11 ?_
  refine g_istore [(4, .int ((232 : Int32) + ((4 : Int32) * (v.1 560 (3 : Int32).toNatClampNeg)))), (0, .ref (gX E + 559)), (1, .int x1), (2, .int x2), (3, .int x3)] dX12_offers_12 (by decide) rfl ?_
  refine g_aload_n 1 dX12_offers_14 rfl ?_
  refine r_get (.ref (gX E + 560)) f_X12_7_X12 rfl (by decide : kd 559 = (0, 9)) (show 559 < 572 by decide) dX12_offers_15 (fun _ => rfl) ?_
  refine g_iload 0 dX12_offers_18 rfl ?_
  refine g_iconst dX12_offers_20 (0 : Int32) (by decide) ?_
  refine g_iadd dX12_offers_21 ?_
  refine g_iload_n 2 dX12_offers_22 rfl ?_
  obtain ⟨h1, hp⟩ := hp
  refine r_iast (by decide : kd 560 = (1, 300)) (show 560 < 572 by decide) h1 dX12_offers_23 ?_
  refine g_lv (lv' := [(0, .ref (gX E + 559)), (2, .int x2), (3, .int x3), (4, .int ((232 : Int32) + ((4 : Int32) * (v.1 560 (3 : Int32).toNatClampNeg))))]) [1, 3, 4, 0] rfl ?_
  exact w_X12_offers_24  hd    x2 x3 ((232 : Int32) + ((4 : Int32) * (v.1 560 (3 : Int32).toNatClampNeg))) (vM v 560 (((232 : Int32) + ((4 : Int32) * (v.1 560 (3 : Int32).toNatClampNeg))) + (0 : Int32)).toNatClampNeg x1) hp hQ
def f_X12_offers  (x1 : Int32) (x2 : Int32) (x3 : Int32) (v : gV) : Int32 × gV := f_X12_offers_0 x1 x2 x3 v
def p_X12_offers  (x1 : Int32) (x2 : Int32) (x3 : Int32) (v : gV) : Prop := p_X12_offers_0 x1 x2 x3 v
theorem c_X12_offers {E : gE} {d : Nat}   (hd : 0 ≤ d) (x1 : Int32) (x2 : Int32) (x3 : Int32) (v : gV) (hp : p_X12_offers x1 x2 x3 v) : CT E m_X12_offers d 0 0 [.ref (gX E + 559), .int x1, .int x2, .int x3] (rS v) (Cq (.inl (some (.int ((f_X12_offers x1 x2 x3 v).1)))) (f_X12_offers x1 x2 x3 v).2) := CT.of ok_X12_offers rfl (Nat.le_of_ble_eq_true rfl) (w_X12_offers_0  hd x1 x2 x3 v hp ⟨rfl, rfl⟩)
def f_X12_addOffer_38  (s0 : Int32) (v : gV) : Int32 × gV := (s0, v)
def p_X12_addOffer_38  (s0 : Int32) (v : gV) : Prop := True
set_option maxHeartbeats 4000000 in
set_option maxRecDepth 100000 in
theorem w_X12_addOffer_38 {E : gE} {d : Nat} {Q : gO → gS → Prop}   (hd : 3 ≤ d) (s0 : Int32) (v : gV) (hp : p_X12_addOffer_38   s0 v) (hQ : gqIV Q (f_X12_addOffer_38  s0 v)) : gG E m_X12_addOffer d Q 0 0 (rS v) 38 [] [.int s0] := by
  exact g_iret rfl dX12_addOffer_38 hQ
def f_X12_addOffer_35  (s0 : Int32) (v : gV) : Int32 × gV := f_X12_addOffer_38  ((f_X12_commit s0 v).1) (f_X12_commit s0 v).2
def p_X12_addOffer_35  (s0 : Int32) (v : gV) : Prop := (p_X12_commit s0 v) ∧ (p_X12_addOffer_38   ((f_X12_commit s0 v).1) (f_X12_commit s0 v).2)
set_option maxHeartbeats 4000000 in
set_option maxRecDepth 100000 in
theorem w_X12_addOffer_35 {E : gE} {d : Nat} {Q : gO → gS → Prop}   (hd : 3 ≤ d) (s0 : Int32) (v : gV) (hp : p_X12_addOffer_35   s0 v) (hQ : gqIV Q (f_X12_addOffer_35  s0 v)) : gG E m_X12_addOffer d Q 0 0 (rS v) 35 [] [.int s0, .ref (gX E + 559)] := by
  obtain ⟨h5, hp⟩ := hp
  refine g_callV (rest := []) s_X12_101_X12 rfl (c_X12_commit (E := E) (d := d - 1)   (by omega) s0 v h5) (by decide : kd 559 = (0, 9)) (show 559 < 572 by decide) rfl rfl (Nat.le_of_ble_eq_true rfl) (by omega) (by decide) (by decide) dX12_addOffer_35 (adV ?_) axN
  exact w_X12_addOffer_38  hd    ((f_X12_commit s0 v).1) (f_X12_commit s0 v).2 hp hQ
def f_X12_addOffer_24  (s0 : Int32) (v : gV) : Int32 × gV := f_X12_addOffer_38  s0 v
def p_X12_addOffer_24  (s0 : Int32) (v : gV) : Prop := p_X12_addOffer_38   s0 v
set_option maxHeartbeats 4000000 in
set_option maxRecDepth 100000 in
theorem w_X12_addOffer_24 {E : gE} {d : Nat} {Q : gO → gS → Prop}   (hd : 3 ≤ d) (s0 : Int32) (v : gV) (hp : p_X12_addOffer_24   s0 v) (hQ : gqIV Q (f_X12_addOffer_24  s0 v)) : gG E m_X12_addOffer d Q 0 0 (rS v) 24 [] [.int s0] := by
  refine g_goto 38 dX12_addOffer_24 (by decide) ?_
  exact w_X12_addOffer_38  hd    s0 v hp hQ
def f_X12_addOffer_4  (x1 : Int32) (x2 : Int32) (x3 : Int32) (v : gV) : Int32 × gV := if (f_X12_cannotOffer x1 x2 x3 v) ≤ 0 then (f_X12_addOffer_35  ((f_X12_offers x1 x2 x3 v).1) (f_X12_offers x1 x2 x3 v).2) else (f_X12_addOffer_24  ((f_X12_fail (f_X12_cannotOffer x1 x2 x3 v) v).1) (f_X12_fail (f_X12_cannotOffer x1 x2 x3 v) v).2)
def p_X12_addOffer_4  (x1 : Int32) (x2 : Int32) (x3 : Int32) (v : gV) : Prop := (p_X12_cannotOffer x1 x2 x3 v) ∧ ((((f_X12_cannotOffer x1 x2 x3 v) ≤ 0) → ((p_X12_offers x1 x2 x3 v) ∧ (p_X12_addOffer_35   ((f_X12_offers x1 x2 x3 v).1) (f_X12_offers x1 x2 x3 v).2))) ∧ (¬ ((f_X12_cannotOffer x1 x2 x3 v) ≤ 0) → ((p_X12_fail (f_X12_cannotOffer x1 x2 x3 v) v) ∧ (p_X12_addOffer_24   ((f_X12_fail (f_X12_cannotOffer x1 x2 x3 v) v).1) (f_X12_fail (f_X12_cannotOffer x1 x2 x3 v) v).2))))
set_option maxHeartbeats 4000000 in
set_option maxRecDepth 100000 in
theorem w_X12_addOffer_4 {E : gE} {d : Nat} {Q : gO → gS → Prop}   (hd : 3 ≤ d) (x1 : Int32) (x2 : Int32) (x3 : Int32) (v : gV) (hp : p_X12_addOffer_4   x1 x2 x3 v) (hQ : gqIV Q (f_X12_addOffer_4  x1 x2 x3 v)) : gG E m_X12_addOffer d Q 0 0 (rS v) 4 [(0, .ref (gX E + 559)), (1, .int x1), (2, .int x2), (3, .int x3)] [] := by
  refine g_aload_n 0 dX12_addOffer_4 rfl ?_
  refine g_iload_n 1 dX12_addOffer_5 rfl ?_
  refine g_iload_n 2 dX12_addOffer_6 rfl ?_
  refine g_iload_n 3 dX12_addOffer_7 rfl ?_
  obtain ⟨h2, hp⟩ := hp
  refine g_callV (rest := []) s_X12_195_X12 rfl (c_X12_cannotOffer (E := E) (d := d - 1)   (by omega) x1 x2 x3 v h2) (by decide : kd 559 = (0, 9)) (show 559 < 572 by decide) rfl rfl (Nat.le_of_ble_eq_true rfl) (by omega) (by decide) (by decide) dX12_addOffer_8 (adV ?_) axN
  refine g_istore [(4, .int ((f_X12_cannotOffer x1 x2 x3 v))), (0, .ref (gX E + 559)), (1, .int x1), (2, .int x2), (3, .int x3)] dX12_addOffer_11 (by decide) rfl ?_
  refine g_iload 0 dX12_addOffer_13 rfl ?_
  refine g_if_le 27 dX12_addOffer_15 (by decide) (fun h3 => ?_) (fun h3 => ?_)
  · have hQ := qp (P := gqIV Q) h3 hQ
    have hp := hp.1 h3
    refine g_aload_n 1 dX12_addOffer_27 rfl ?_
    refine g_aload_n 1 dX12_addOffer_28 rfl ?_
    refine g_iload_n 2 dX12_addOffer_29 rfl ?_
    refine g_iload_n 3 dX12_addOffer_30 rfl ?_
    refine g_iload_n 4 dX12_addOffer_31 rfl ?_
    obtain ⟨h4, hp⟩ := hp
    refine g_callV (rest := [.ref (gX E + 559)]) s_X12_198_X12 rfl (c_X12_offers (E := E) (d := d - 1)   (by omega) x1 x2 x3 v h4) (by decide : kd 559 = (0, 9)) (show 559 < 572 by decide) rfl rfl (Nat.le_of_ble_eq_true rfl) (by omega) (by decide) (by decide) dX12_addOffer_32 (adV ?_) axN
    refine g_lv (lv' := []) [] rfl ?_
    exact w_X12_addOffer_35  hd    ((f_X12_offers x1 x2 x3 v).1) (f_X12_offers x1 x2 x3 v).2 hp hQ
  · have hQ := qn (P := gqIV Q) h3 hQ
    have hp := hp.2 h3
    refine g_aload_n 1 dX12_addOffer_18 rfl ?_
    refine g_iload 0 dX12_addOffer_19 rfl ?_
    obtain ⟨h6, hp⟩ := hp
    refine g_callV (rest := []) s_X12_94_X12 rfl (c_X12_fail (E := E) (d := d - 1)   (by omega) (f_X12_cannotOffer x1 x2 x3 v) v h6) (by decide : kd 559 = (0, 9)) (show 559 < 572 by decide) rfl rfl (Nat.le_of_ble_eq_true rfl) (by omega) (by decide) (by decide) dX12_addOffer_21 (adV ?_) axN
    refine g_lv (lv' := []) [] rfl ?_
    exact w_X12_addOffer_24  hd    ((f_X12_fail (f_X12_cannotOffer x1 x2 x3 v) v).1) (f_X12_fail (f_X12_cannotOffer x1 x2 x3 v) v).2 hp hQ
def f_X12_addOffer_0  (x1 : Int32) (x2 : Int32) (x3 : Int32) (v : gV) : Int32 × gV := f_X12_addOffer_4  x1 x2 x3 (f_X12_begin  v)
def p_X12_addOffer_0  (x1 : Int32) (x2 : Int32) (x3 : Int32) (v : gV) : Prop := (p_X12_begin  v) ∧ (p_X12_addOffer_4   x1 x2 x3 (f_X12_begin  v))
set_option maxHeartbeats 4000000 in
set_option maxRecDepth 100000 in
theorem w_X12_addOffer_0 {E : gE} {d : Nat} {Q : gO → gS → Prop}   (hd : 3 ≤ d) (x1 : Int32) (x2 : Int32) (x3 : Int32) (v : gV) (hp : p_X12_addOffer_0   x1 x2 x3 v) (hQ : gqIV Q (f_X12_addOffer_0  x1 x2 x3 v)) : gG E m_X12_addOffer d Q 0 0 (rS v) 0 [(0, .ref (gX E + 559)), (1, .int x1), (2, .int x2), (3, .int x3)] [] := by
  refine g_aload_n 0 dX12_addOffer_0 rfl ?_
  obtain ⟨h1, hp⟩ := hp
  refine g_callV (rest := []) s_X12_87_X12 rfl (c_X12_begin (E := E) (d := d - 1)   (by omega)  v h1) (by decide : kd 559 = (0, 9)) (show 559 < 572 by decide) rfl rfl (Nat.le_of_ble_eq_true rfl) (by omega) (by decide) (by decide) dX12_addOffer_1 (adN ?_) axN
  exact w_X12_addOffer_4  hd    x1 x2 x3 (f_X12_begin  v) hp hQ
def f_X12_addOffer  (x1 : Int32) (x2 : Int32) (x3 : Int32) (v : gV) : Int32 × gV := f_X12_addOffer_0 x1 x2 x3 v
def p_X12_addOffer  (x1 : Int32) (x2 : Int32) (x3 : Int32) (v : gV) : Prop := p_X12_addOffer_0 x1 x2 x3 v
theorem c_X12_addOffer {E : gE} {d : Nat}   (hd : 3 ≤ d) (x1 : Int32) (x2 : Int32) (x3 : Int32) (v : gV) (hp : p_X12_addOffer x1 x2 x3 v) : CT E m_X12_addOffer d 0 0 [.ref (gX E + 559), .int x1, .int x2, .int x3] (rS v) (Cq (.inl (some (.int ((f_X12_addOffer x1 x2 x3 v).1)))) (f_X12_addOffer x1 x2 x3 v).2) := CT.of ok_X12_addOffer rfl (Nat.le_of_ble_eq_true rfl) (w_X12_addOffer_0  hd x1 x2 x3 v hp ⟨rfl, rfl⟩)
def f_X12_removesOffer_32  (x2 : Int32) (v : gV) : Int32 × gV := (x2, v)
def p_X12_removesOffer_32  (x2 : Int32) (v : gV) : Prop := True
set_option maxHeartbeats 4000000 in
set_option maxRecDepth 100000 in
theorem w_X12_removesOffer_32 {E : gE} {d : Nat} {Q : gO → gS → Prop}   (hd : 1 ≤ d) (x2 : Int32) (v : gV) (hp : p_X12_removesOffer_32   x2 v) (hQ : gqIV Q (f_X12_removesOffer_32  x2 v)) : gG E m_X12_removesOffer d Q 0 0 (rS v) 32 [(2, .int x2)] [] := by
  refine g_iload_n 0 dX12_removesOffer_32 rfl ?_
  exact g_iret rfl dX12_removesOffer_33 hQ
def f_X12_removesOffer_17  (x1 : Int32) (x2 : Int32) (v : gV) : Int32 × gV := f_X12_removesOffer_32  x2 (f_X12_removeRow (232 : Int32) (4 : Int32) x1 (v.1 560 (3 : Int32).toNatClampNeg) v)
def p_X12_removesOffer_17  (x1 : Int32) (x2 : Int32) (v : gV) : Prop := (p_X12_removeRow (232 : Int32) (4 : Int32) x1 (v.1 560 (3 : Int32).toNatClampNeg) v) ∧ (p_X12_removesOffer_32   x2 (f_X12_removeRow (232 : Int32) (4 : Int32) x1 (v.1 560 (3 : Int32).toNatClampNeg) v))
set_option maxHeartbeats 4000000 in
set_option maxRecDepth 100000 in
theorem w_X12_removesOffer_17 {E : gE} {d : Nat} {Q : gO → gS → Prop}   (hd : 1 ≤ d) (x1 : Int32) (x2 : Int32) (v : gV) (hp : p_X12_removesOffer_17   x1 x2 v) (hQ : gqIV Q (f_X12_removesOffer_17  x1 x2 v)) : gG E m_X12_removesOffer d Q 0 0 (rS v) 17 [(0, .ref (gX E + 559)), (1, .int x1), (2, .int x2)] [] := by
  refine g_aload_n 0 dX12_removesOffer_17 rfl ?_
  refine g_sipush dX12_removesOffer_18 (232 : Int32) (by decide) ?_
  refine g_iconst dX12_removesOffer_21 (4 : Int32) (by decide) ?_
  refine g_iload_n 1 dX12_removesOffer_22 rfl ?_
  refine g_aload_n 0 dX12_removesOffer_23 rfl ?_
  refine r_get (.ref (gX E + 560)) f_X12_7_X12 rfl (by decide : kd 559 = (0, 9)) (show 559 < 572 by decide) dX12_removesOffer_24 (fun _ => rfl) ?_
  refine g_iconst dX12_removesOffer_27 (3 : Int32) (by decide) ?_
  refine g_iald (by decide : kd 560 = (1, 300)) (show 560 < 572 by decide) (show ¬ (_ ∨ _) by decide) dX12_removesOffer_28 ?_
  obtain ⟨h2, hp⟩ := hp
  refine g_callV (rest := []) s_X12_117_X12 rfl (c_X12_removeRow (E := E) (d := d - 1)   (by omega) (232 : Int32) (4 : Int32) x1 (v.1 560 (3 : Int32).toNatClampNeg) v h2) (by decide : kd 559 = (0, 9)) (show 559 < 572 by decide) rfl rfl (Nat.le_of_ble_eq_true rfl) (by omega) (by decide) (by decide) dX12_removesOffer_29 (adN ?_) axN
  refine g_lv (lv' := [(2, .int x2)]) [2] rfl ?_
  exact w_X12_removesOffer_32  hd    x2 (f_X12_removeRow (232 : Int32) (4 : Int32) x1 (v.1 560 (3 : Int32).toNatClampNeg) v) hp hQ
def f_X12_removesOffer_0  (x1 : Int32) (v : gV) : Int32 × gV := f_X12_removesOffer_17  x1 (f_X12_o x1 (2 : Int32) v) (vM v 560 (3 : Int32).toNatClampNeg ((v.1 560 (3 : Int32).toNatClampNeg) - (1 : Int32)))
def p_X12_removesOffer_0  (x1 : Int32) (v : gV) : Prop := (p_X12_o x1 (2 : Int32) v) ∧ (p_X12_removesOffer_17   x1 (f_X12_o x1 (2 : Int32) v) (vM v 560 (3 : Int32).toNatClampNeg ((v.1 560 (3 : Int32).toNatClampNeg) - (1 : Int32))))
set_option maxHeartbeats 4000000 in
set_option maxRecDepth 100000 in
theorem w_X12_removesOffer_0 {E : gE} {d : Nat} {Q : gO → gS → Prop}   (hd : 1 ≤ d) (x1 : Int32) (v : gV) (hp : p_X12_removesOffer_0   x1 v) (hQ : gqIV Q (f_X12_removesOffer_0  x1 v)) : gG E m_X12_removesOffer d Q 0 0 (rS v) 0 [(0, .ref (gX E + 559)), (1, .int x1)] [] := by
  refine g_aload_n 0 dX12_removesOffer_0 rfl ?_
  refine g_iload_n 1 dX12_removesOffer_1 rfl ?_
  refine g_iconst dX12_removesOffer_2 (2 : Int32) (by decide) ?_
  obtain ⟨h1, hp⟩ := hp
  refine g_callV (rest := []) s_X12_201_X12 rfl (c_X12_o (E := E) (d := d - 1)   (by omega) x1 (2 : Int32) v h1) (by decide : kd 559 = (0, 9)) (show 559 < 572 by decide) rfl rfl (Nat.le_of_ble_eq_true rfl) (by omega) (by decide) (by decide) dX12_removesOffer_3 (adV ?_) axN
  refine g_istore_n [(2, .int ((f_X12_o x1 (2 : Int32) v))), (0, .ref (gX E + 559)), (1, .int x1)] dX12_removesOffer_6 rfl (by decide) rfl ?_
  refine g_aload_n 1 dX12_removesOffer_7 rfl ?_
  refine r_get (.ref (gX E + 560)) f_X12_7_X12 rfl (by decide : kd 559 = (0, 9)) (show 559 < 572 by decide) dX12_removesOffer_8 (fun _ => rfl) ?_
  refine g_iconst dX12_removesOffer_11 (3 : Int32) (by decide) ?_
  refine g_dup2 dX12_removesOffer_12 rfl rfl ?_
  refine g_iald (by decide : kd 560 = (1, 300)) (show 560 < 572 by decide) (show ¬ (_ ∨ _) by decide) dX12_removesOffer_13 ?_
  refine g_iconst dX12_removesOffer_14 (1 : Int32) (by decide) ?_
  refine g_isub dX12_removesOffer_15 ?_
  refine r_iast (by decide : kd 560 = (1, 300)) (show 560 < 572 by decide) (show ¬ (_ ∨ _) by decide) dX12_removesOffer_16 ?_
  refine g_lv (lv' := [(0, .ref (gX E + 559)), (1, .int x1), (2, .int ((f_X12_o x1 (2 : Int32) v)))]) [1, 2, 0] rfl ?_
  exact w_X12_removesOffer_17  hd    x1 (f_X12_o x1 (2 : Int32) v) (vM v 560 (3 : Int32).toNatClampNeg ((v.1 560 (3 : Int32).toNatClampNeg) - (1 : Int32))) hp hQ
def f_X12_removesOffer  (x1 : Int32) (v : gV) : Int32 × gV := f_X12_removesOffer_0 x1 v
def p_X12_removesOffer  (x1 : Int32) (v : gV) : Prop := p_X12_removesOffer_0 x1 v
theorem c_X12_removesOffer {E : gE} {d : Nat}   (hd : 1 ≤ d) (x1 : Int32) (v : gV) (hp : p_X12_removesOffer x1 v) : CT E m_X12_removesOffer d 0 0 [.ref (gX E + 559), .int x1] (rS v) (Cq (.inl (some (.int ((f_X12_removesOffer x1 v).1)))) (f_X12_removesOffer x1 v).2) := CT.of ok_X12_removesOffer rfl (Nat.le_of_ble_eq_true rfl) (w_X12_removesOffer_0  hd x1 v hp ⟨rfl, rfl⟩)
def f_X12_dropOffer_37  (s0 : Int32) (v : gV) : Int32 × gV := (s0, v)
def p_X12_dropOffer_37  (s0 : Int32) (v : gV) : Prop := True
set_option maxHeartbeats 4000000 in
set_option maxRecDepth 100000 in
theorem w_X12_dropOffer_37 {E : gE} {d : Nat} {Q : gO → gS → Prop}   (hd : 2 ≤ d) (s0 : Int32) (v : gV) (hp : p_X12_dropOffer_37   s0 v) (hQ : gqIV Q (f_X12_dropOffer_37  s0 v)) : gG E m_X12_dropOffer d Q 0 0 (rS v) 37 [] [.int s0] := by
  exact g_iret rfl dX12_dropOffer_37 hQ
def f_X12_dropOffer_29  (s0 : Int32) (v : gV) : Int32 × gV := f_X12_dropOffer_37  s0 v
def p_X12_dropOffer_29  (s0 : Int32) (v : gV) : Prop := p_X12_dropOffer_37   s0 v
set_option maxHeartbeats 4000000 in
set_option maxRecDepth 100000 in
theorem w_X12_dropOffer_29 {E : gE} {d : Nat} {Q : gO → gS → Prop}   (hd : 2 ≤ d) (s0 : Int32) (v : gV) (hp : p_X12_dropOffer_29   s0 v) (hQ : gqIV Q (f_X12_dropOffer_29  s0 v)) : gG E m_X12_dropOffer d Q 0 0 (rS v) 29 [] [.int s0] := by
  refine g_goto 37 dX12_dropOffer_29 (by decide) ?_
  exact w_X12_dropOffer_37  hd    s0 v hp hQ
def f_X12_dropOffer_26  (s0 : Int32) (v : gV) : Int32 × gV := f_X12_dropOffer_29  ((f_X12_commit s0 v).1) (f_X12_commit s0 v).2
def p_X12_dropOffer_26  (s0 : Int32) (v : gV) : Prop := (p_X12_commit s0 v) ∧ (p_X12_dropOffer_29   ((f_X12_commit s0 v).1) (f_X12_commit s0 v).2)
set_option maxHeartbeats 4000000 in
set_option maxRecDepth 100000 in
theorem w_X12_dropOffer_26 {E : gE} {d : Nat} {Q : gO → gS → Prop}   (hd : 2 ≤ d) (s0 : Int32) (v : gV) (hp : p_X12_dropOffer_26   s0 v) (hQ : gqIV Q (f_X12_dropOffer_26  s0 v)) : gG E m_X12_dropOffer d Q 0 0 (rS v) 26 [] [.int s0, .ref (gX E + 559)] := by
  obtain ⟨h6, hp⟩ := hp
  refine g_callV (rest := []) s_X12_101_X12 rfl (c_X12_commit (E := E) (d := d - 1)   (by omega) s0 v h6) (by decide : kd 559 = (0, 9)) (show 559 < 572 by decide) rfl rfl (Nat.le_of_ble_eq_true rfl) (by omega) (by decide) (by decide) dX12_dropOffer_26 (adV ?_) axN
  exact w_X12_dropOffer_29  hd    ((f_X12_commit s0 v).1) (f_X12_commit s0 v).2 hp hQ
def f_X12_dropOffer_4  (x1 : Int32) (v : gV) : Int32 × gV := if (f_X12_in x1 (0 : Int32) ((v.1 560 (3 : Int32).toNatClampNeg) - (1 : Int32)) v) = 0 then (f_X12_dropOffer_37  ((f_X12_fail (1 : Int32) v).1) (f_X12_fail (1 : Int32) v).2) else (f_X12_dropOffer_26  ((f_X12_removesOffer x1 v).1) (f_X12_removesOffer x1 v).2)
def p_X12_dropOffer_4  (x1 : Int32) (v : gV) : Prop := (p_X12_in x1 (0 : Int32) ((v.1 560 (3 : Int32).toNatClampNeg) - (1 : Int32)) v) ∧ ((((f_X12_in x1 (0 : Int32) ((v.1 560 (3 : Int32).toNatClampNeg) - (1 : Int32)) v) = 0) → ((p_X12_fail (1 : Int32) v) ∧ (p_X12_dropOffer_37   ((f_X12_fail (1 : Int32) v).1) (f_X12_fail (1 : Int32) v).2))) ∧ (¬ ((f_X12_in x1 (0 : Int32) ((v.1 560 (3 : Int32).toNatClampNeg) - (1 : Int32)) v) = 0) → ((p_X12_removesOffer x1 v) ∧ (p_X12_dropOffer_26   ((f_X12_removesOffer x1 v).1) (f_X12_removesOffer x1 v).2))))
set_option maxHeartbeats 4000000 in
set_option maxRecDepth 100000 in
theorem w_X12_dropOffer_4 {E : gE} {d : Nat} {Q : gO → gS → Prop}   (hd : 2 ≤ d) (x1 : Int32) (v : gV) (hp : p_X12_dropOffer_4   x1 v) (hQ : gqIV Q (f_X12_dropOffer_4  x1 v)) : gG E m_X12_dropOffer d Q 0 0 (rS v) 4 [(0, .ref (gX E + 559)), (1, .int x1)] [] := by
  refine g_iload_n 1 dX12_dropOffer_4 rfl ?_
  refine g_iconst dX12_dropOffer_5 (0 : Int32) (by decide) ?_
  refine g_aload_n 0 dX12_dropOffer_6 rfl ?_
  refine r_get (.ref (gX E + 560)) f_X12_7_X12 rfl (by decide : kd 559 = (0, 9)) (show 559 < 572 by decide) dX12_dropOffer_7 (fun _ => rfl) ?_
  refine g_iconst dX12_dropOffer_10 (3 : Int32) (by decide) ?_
  refine g_iald (by decide : kd 560 = (1, 300)) (show 560 < 572 by decide) (show ¬ (_ ∨ _) by decide) dX12_dropOffer_11 ?_
  refine g_iconst dX12_dropOffer_12 (1 : Int32) (by decide) ?_
  refine g_isub dX12_dropOffer_13 ?_
  obtain ⟨h2, hp⟩ := hp
  refine g_callS (rest := []) s_X12_83 rfl (c_X12_in (E := E) (d := d - 1)   (by omega) x1 (0 : Int32) ((v.1 560 (3 : Int32).toNatClampNeg) - (1 : Int32)) v h2) rfl rfl (Nat.le_of_ble_eq_true rfl) (by omega) (by decide) (by decide) dX12_dropOffer_14 (adV ?_) axN
  refine g_if_eq 32 dX12_dropOffer_17 (by decide) (fun h3 => ?_) (fun h3 => ?_)
  · have hQ := qp (P := gqIV Q) h3 hQ
    have hp := hp.1 h3
    refine g_aload_n 0 dX12_dropOffer_32 rfl ?_
    refine g_iconst dX12_dropOffer_33 (1 : Int32) (by decide) ?_
    obtain ⟨h4, hp⟩ := hp
    refine g_callV (rest := []) s_X12_94_X12 rfl (c_X12_fail (E := E) (d := d - 1)   (by omega) (1 : Int32) v h4) (by decide : kd 559 = (0, 9)) (show 559 < 572 by decide) rfl rfl (Nat.le_of_ble_eq_true rfl) (by omega) (by decide) (by decide) dX12_dropOffer_34 (adV ?_) axN
    refine g_lv (lv' := []) [] rfl ?_
    exact w_X12_dropOffer_37  hd    ((f_X12_fail (1 : Int32) v).1) (f_X12_fail (1 : Int32) v).2 hp hQ
  · have hQ := qn (P := gqIV Q) h3 hQ
    have hp := hp.2 h3
    refine g_aload_n 0 dX12_dropOffer_20 rfl ?_
    refine g_aload_n 0 dX12_dropOffer_21 rfl ?_
    refine g_iload_n 1 dX12_dropOffer_22 rfl ?_
    obtain ⟨h5, hp⟩ := hp
    refine g_callV (rest := [.ref (gX E + 559)]) s_X12_204_X12 rfl (c_X12_removesOffer (E := E) (d := d - 1)   (by omega) x1 v h5) (by decide : kd 559 = (0, 9)) (show 559 < 572 by decide) rfl rfl (Nat.le_of_ble_eq_true rfl) (by omega) (by decide) (by decide) dX12_dropOffer_23 (adV ?_) axN
    refine g_lv (lv' := []) [] rfl ?_
    exact w_X12_dropOffer_26  hd    ((f_X12_removesOffer x1 v).1) (f_X12_removesOffer x1 v).2 hp hQ
def f_X12_dropOffer_0  (x1 : Int32) (v : gV) : Int32 × gV := f_X12_dropOffer_4  x1 (f_X12_begin  v)
def p_X12_dropOffer_0  (x1 : Int32) (v : gV) : Prop := (p_X12_begin  v) ∧ (p_X12_dropOffer_4   x1 (f_X12_begin  v))
set_option maxHeartbeats 4000000 in
set_option maxRecDepth 100000 in
theorem w_X12_dropOffer_0 {E : gE} {d : Nat} {Q : gO → gS → Prop}   (hd : 2 ≤ d) (x1 : Int32) (v : gV) (hp : p_X12_dropOffer_0   x1 v) (hQ : gqIV Q (f_X12_dropOffer_0  x1 v)) : gG E m_X12_dropOffer d Q 0 0 (rS v) 0 [(0, .ref (gX E + 559)), (1, .int x1)] [] := by
  refine g_aload_n 0 dX12_dropOffer_0 rfl ?_
  obtain ⟨h1, hp⟩ := hp
  refine g_callV (rest := []) s_X12_87_X12 rfl (c_X12_begin (E := E) (d := d - 1)   (by omega)  v h1) (by decide : kd 559 = (0, 9)) (show 559 < 572 by decide) rfl rfl (Nat.le_of_ble_eq_true rfl) (by omega) (by decide) (by decide) dX12_dropOffer_1 (adN ?_) axN
  exact w_X12_dropOffer_4  hd    x1 (f_X12_begin  v) hp hQ
def f_X12_dropOffer  (x1 : Int32) (v : gV) : Int32 × gV := f_X12_dropOffer_0 x1 v
def p_X12_dropOffer  (x1 : Int32) (v : gV) : Prop := p_X12_dropOffer_0 x1 v
theorem c_X12_dropOffer {E : gE} {d : Nat}   (hd : 2 ≤ d) (x1 : Int32) (v : gV) (hp : p_X12_dropOffer x1 v) : CT E m_X12_dropOffer d 0 0 [.ref (gX E + 559), .int x1] (rS v) (Cq (.inl (some (.int ((f_X12_dropOffer x1 v).1)))) (f_X12_dropOffer x1 v).2) := CT.of ok_X12_dropOffer rfl (Nat.le_of_ble_eq_true rfl) (w_X12_dropOffer_0  hd x1 v hp ⟨rfl, rfl⟩)
def f_X12_passes_11   (v : gV) : Int32 × gV := (v.1 560 (6 : Int32).toNatClampNeg, v)
def p_X12_passes_11   (v : gV) : Prop := True
set_option maxHeartbeats 4000000 in
set_option maxRecDepth 100000 in
theorem w_X12_passes_11 {E : gE} {d : Nat} {Q : gO → gS → Prop}   (hd : 0 ≤ d)  (v : gV) (hp : p_X12_passes_11    v) (hQ : gqIV Q (f_X12_passes_11   v)) : gG E m_X12_passes d Q 0 0 (rS v) 11 [(0, .ref (gX E + 559))] [] := by
  refine g_aload_n 0 dX12_passes_11 rfl ?_
  refine r_get (.ref (gX E + 560)) f_X12_7_X12 rfl (by decide : kd 559 = (0, 9)) (show 559 < 572 by decide) dX12_passes_12 (fun _ => rfl) ?_
  refine g_bipush dX12_passes_15 (6 : Int32) (by decide) ?_
  refine g_iald (by decide : kd 560 = (1, 300)) (show 560 < 572 by decide) (show ¬ (_ ∨ _) by decide) dX12_passes_17 ?_
  exact g_iret rfl dX12_passes_18 hQ
def f_X12_passes_0  (x1 : Int32) (v : gV) : Int32 × gV := f_X12_passes_11   (vM v 560 (6 : Int32).toNatClampNeg ((v.1 560 (6 : Int32).toNatClampNeg) + x1))
def p_X12_passes_0  (x1 : Int32) (v : gV) : Prop := p_X12_passes_11    (vM v 560 (6 : Int32).toNatClampNeg ((v.1 560 (6 : Int32).toNatClampNeg) + x1))
set_option maxHeartbeats 4000000 in
set_option maxRecDepth 100000 in
theorem w_X12_passes_0 {E : gE} {d : Nat} {Q : gO → gS → Prop}   (hd : 0 ≤ d) (x1 : Int32) (v : gV) (hp : p_X12_passes_0   x1 v) (hQ : gqIV Q (f_X12_passes_0  x1 v)) : gG E m_X12_passes d Q 0 0 (rS v) 0 [(0, .ref (gX E + 559)), (1, .int x1)] [] := by
  refine g_aload_n 0 dX12_passes_0 rfl ?_
  refine r_get (.ref (gX E + 560)) f_X12_7_X12 rfl (by decide : kd 559 = (0, 9)) (show 559 < 572 by decide) dX12_passes_1 (fun _ => rfl) ?_
  refine g_bipush dX12_passes_4 (6 : Int32) (by decide) ?_
  refine g_dup2 dX12_passes_6 rfl rfl ?_
  refine g_iald (by decide : kd 560 = (1, 300)) (show 560 < 572 by decide) (show ¬ (_ ∨ _) by decide) dX12_passes_7 ?_
  refine g_iload_n 1 dX12_passes_8 rfl ?_
  refine g_iadd dX12_passes_9 ?_
  refine r_iast (by decide : kd 560 = (1, 300)) (show 560 < 572 by decide) (show ¬ (_ ∨ _) by decide) dX12_passes_10 ?_
  refine g_lv (lv' := [(0, .ref (gX E + 559))]) [0] rfl ?_
  exact w_X12_passes_11  hd     (vM v 560 (6 : Int32).toNatClampNeg ((v.1 560 (6 : Int32).toNatClampNeg) + x1)) hp hQ
def f_X12_passes  (x1 : Int32) (v : gV) : Int32 × gV := f_X12_passes_0 x1 v
def p_X12_passes  (x1 : Int32) (v : gV) : Prop := p_X12_passes_0 x1 v
theorem c_X12_passes {E : gE} {d : Nat}   (hd : 0 ≤ d) (x1 : Int32) (v : gV) (hp : p_X12_passes x1 v) : CT E m_X12_passes d 0 0 [.ref (gX E + 559), .int x1] (rS v) (Cq (.inl (some (.int ((f_X12_passes x1 v).1)))) (f_X12_passes x1 v).2) := CT.of ok_X12_passes rfl (Nat.le_of_ble_eq_true rfl) (w_X12_passes_0  hd x1 v hp ⟨rfl, rfl⟩)
def f_X12_passDays_31  (s0 : Int32) (v : gV) : Int32 × gV := (s0, v)
def p_X12_passDays_31  (s0 : Int32) (v : gV) : Prop := True
set_option maxHeartbeats 4000000 in
set_option maxRecDepth 100000 in
theorem w_X12_passDays_31 {E : gE} {d : Nat} {Q : gO → gS → Prop}   (hd : 2 ≤ d) (s0 : Int32) (v : gV) (hp : p_X12_passDays_31   s0 v) (hQ : gqIV Q (f_X12_passDays_31  s0 v)) : gG E m_X12_passDays d Q 0 0 (rS v) 31 [] [.int s0] := by
  exact g_iret rfl dX12_passDays_31 hQ
def f_X12_passDays_23  (s0 : Int32) (v : gV) : Int32 × gV := f_X12_passDays_31  s0 v
def p_X12_passDays_23  (s0 : Int32) (v : gV) : Prop := p_X12_passDays_31   s0 v
set_option maxHeartbeats 4000000 in
set_option maxRecDepth 100000 in
theorem w_X12_passDays_23 {E : gE} {d : Nat} {Q : gO → gS → Prop}   (hd : 2 ≤ d) (s0 : Int32) (v : gV) (hp : p_X12_passDays_23   s0 v) (hQ : gqIV Q (f_X12_passDays_23  s0 v)) : gG E m_X12_passDays d Q 0 0 (rS v) 23 [] [.int s0] := by
  refine g_goto 31 dX12_passDays_23 (by decide) ?_
  exact w_X12_passDays_31  hd    s0 v hp hQ
def f_X12_passDays_20  (s0 : Int32) (v : gV) : Int32 × gV := f_X12_passDays_23  ((f_X12_commit s0 v).1) (f_X12_commit s0 v).2
def p_X12_passDays_20  (s0 : Int32) (v : gV) : Prop := (p_X12_commit s0 v) ∧ (p_X12_passDays_23   ((f_X12_commit s0 v).1) (f_X12_commit s0 v).2)
set_option maxHeartbeats 4000000 in
set_option maxRecDepth 100000 in
theorem w_X12_passDays_20 {E : gE} {d : Nat} {Q : gO → gS → Prop}   (hd : 2 ≤ d) (s0 : Int32) (v : gV) (hp : p_X12_passDays_20   s0 v) (hQ : gqIV Q (f_X12_passDays_20  s0 v)) : gG E m_X12_passDays d Q 0 0 (rS v) 20 [] [.int s0, .ref (gX E + 559)] := by
  obtain ⟨h6, hp⟩ := hp
  refine g_callV (rest := []) s_X12_101_X12 rfl (c_X12_commit (E := E) (d := d - 1)   (by omega) s0 v h6) (by decide : kd 559 = (0, 9)) (show 559 < 572 by decide) rfl rfl (Nat.le_of_ble_eq_true rfl) (by omega) (by decide) (by decide) dX12_passDays_20 (adV ?_) axN
  exact w_X12_passDays_23  hd    ((f_X12_commit s0 v).1) (f_X12_commit s0 v).2 hp hQ
def f_X12_passDays_4  (x1 : Int32) (v : gV) : Int32 × gV := if (f_X12_in x1 (1 : Int32) (60 : Int32) v) = 0 then (f_X12_passDays_31  ((f_X12_fail (1 : Int32) v).1) (f_X12_fail (1 : Int32) v).2) else (f_X12_passDays_20  ((f_X12_passes x1 v).1) (f_X12_passes x1 v).2)
def p_X12_passDays_4  (x1 : Int32) (v : gV) : Prop := (p_X12_in x1 (1 : Int32) (60 : Int32) v) ∧ ((((f_X12_in x1 (1 : Int32) (60 : Int32) v) = 0) → ((p_X12_fail (1 : Int32) v) ∧ (p_X12_passDays_31   ((f_X12_fail (1 : Int32) v).1) (f_X12_fail (1 : Int32) v).2))) ∧ (¬ ((f_X12_in x1 (1 : Int32) (60 : Int32) v) = 0) → ((p_X12_passes x1 v) ∧ (p_X12_passDays_20   ((f_X12_passes x1 v).1) (f_X12_passes x1 v).2))))
set_option maxHeartbeats 4000000 in
set_option maxRecDepth 100000 in
theorem w_X12_passDays_4 {E : gE} {d : Nat} {Q : gO → gS → Prop}   (hd : 2 ≤ d) (x1 : Int32) (v : gV) (hp : p_X12_passDays_4   x1 v) (hQ : gqIV Q (f_X12_passDays_4  x1 v)) : gG E m_X12_passDays d Q 0 0 (rS v) 4 [(0, .ref (gX E + 559)), (1, .int x1)] [] := by
  refine g_iload_n 1 dX12_passDays_4 rfl ?_
  refine g_iconst dX12_passDays_5 (1 : Int32) (by decide) ?_
  refine g_bipush dX12_passDays_6 (60 : Int32) (by decide) ?_
  obtain ⟨h2, hp⟩ := hp
  refine g_callS (rest := []) s_X12_83 rfl (c_X12_in (E := E) (d := d - 1)   (by omega) x1 (1 : Int32) (60 : Int32) v h2) rfl rfl (Nat.le_of_ble_eq_true rfl) (by omega) (by decide) (by decide) dX12_passDays_8 (adV ?_) axN
  refine g_if_eq 26 dX12_passDays_11 (by decide) (fun h3 => ?_) (fun h3 => ?_)
  · have hQ := qp (P := gqIV Q) h3 hQ
    have hp := hp.1 h3
    refine g_aload_n 0 dX12_passDays_26 rfl ?_
    refine g_iconst dX12_passDays_27 (1 : Int32) (by decide) ?_
    obtain ⟨h4, hp⟩ := hp
    refine g_callV (rest := []) s_X12_94_X12 rfl (c_X12_fail (E := E) (d := d - 1)   (by omega) (1 : Int32) v h4) (by decide : kd 559 = (0, 9)) (show 559 < 572 by decide) rfl rfl (Nat.le_of_ble_eq_true rfl) (by omega) (by decide) (by decide) dX12_passDays_28 (adV ?_) axN
    refine g_lv (lv' := []) [] rfl ?_
    exact w_X12_passDays_31  hd    ((f_X12_fail (1 : Int32) v).1) (f_X12_fail (1 : Int32) v).2 hp hQ
  · have hQ := qn (P := gqIV Q) h3 hQ
    have hp := hp.2 h3
    refine g_aload_n 0 dX12_passDays_14 rfl ?_
    refine g_aload_n 0 dX12_passDays_15 rfl ?_
    refine g_iload_n 1 dX12_passDays_16 rfl ?_
    obtain ⟨h5, hp⟩ := hp
    refine g_callV (rest := [.ref (gX E + 559)]) s_X12_207_X12 rfl (c_X12_passes (E := E) (d := d - 1)   (by omega) x1 v h5) (by decide : kd 559 = (0, 9)) (show 559 < 572 by decide) rfl rfl (Nat.le_of_ble_eq_true rfl) (by omega) (by decide) (by decide) dX12_passDays_17 (adV ?_) axN
    refine g_lv (lv' := []) [] rfl ?_
    exact w_X12_passDays_20  hd    ((f_X12_passes x1 v).1) (f_X12_passes x1 v).2 hp hQ
def f_X12_passDays_0  (x1 : Int32) (v : gV) : Int32 × gV := f_X12_passDays_4  x1 (f_X12_begin  v)
def p_X12_passDays_0  (x1 : Int32) (v : gV) : Prop := (p_X12_begin  v) ∧ (p_X12_passDays_4   x1 (f_X12_begin  v))
set_option maxHeartbeats 4000000 in
set_option maxRecDepth 100000 in
theorem w_X12_passDays_0 {E : gE} {d : Nat} {Q : gO → gS → Prop}   (hd : 2 ≤ d) (x1 : Int32) (v : gV) (hp : p_X12_passDays_0   x1 v) (hQ : gqIV Q (f_X12_passDays_0  x1 v)) : gG E m_X12_passDays d Q 0 0 (rS v) 0 [(0, .ref (gX E + 559)), (1, .int x1)] [] := by
  refine g_aload_n 0 dX12_passDays_0 rfl ?_
  obtain ⟨h1, hp⟩ := hp
  refine g_callV (rest := []) s_X12_87_X12 rfl (c_X12_begin (E := E) (d := d - 1)   (by omega)  v h1) (by decide : kd 559 = (0, 9)) (show 559 < 572 by decide) rfl rfl (Nat.le_of_ble_eq_true rfl) (by omega) (by decide) (by decide) dX12_passDays_1 (adN ?_) axN
  exact w_X12_passDays_4  hd    x1 (f_X12_begin  v) hp hQ
def f_X12_passDays  (x1 : Int32) (v : gV) : Int32 × gV := f_X12_passDays_0 x1 v
def p_X12_passDays  (x1 : Int32) (v : gV) : Prop := p_X12_passDays_0 x1 v
theorem c_X12_passDays {E : gE} {d : Nat}   (hd : 2 ≤ d) (x1 : Int32) (v : gV) (hp : p_X12_passDays x1 v) : CT E m_X12_passDays d 0 0 [.ref (gX E + 559), .int x1] (rS v) (Cq (.inl (some (.int ((f_X12_passDays x1 v).1)))) (f_X12_passDays x1 v).2) := CT.of ok_X12_passDays rfl (Nat.le_of_ble_eq_true rfl) (w_X12_passDays_0  hd x1 v hp ⟨rfl, rfl⟩)
def f_X12_plain_5  (x1 : Int32) (v : gV) : Int32 × gV := (x1, v)
def p_X12_plain_5  (x1 : Int32) (v : gV) : Prop := True
set_option maxHeartbeats 4000000 in
set_option maxRecDepth 100000 in
theorem w_X12_plain_5 {E : gE} {d : Nat} {Q : gO → gS → Prop}   (hd : 0 ≤ d) (x1 : Int32) (v : gV) (hp : p_X12_plain_5   x1 v) (hQ : gqIV Q (f_X12_plain_5  x1 v)) : gG E m_X12_plain d Q 0 0 (rS v) 5 [(1, .int x1)] [] := by
  refine g_iload_n 0 dX12_plain_5 rfl ?_
  exact g_iret rfl dX12_plain_6 hQ
def f_X12_plain_0  (x1 : Int32) (v : gV) : Int32 × gV := f_X12_plain_5  x1 (vM v 559 6 (0 : Int32))
def p_X12_plain_0  (x1 : Int32) (v : gV) : Prop := p_X12_plain_5   x1 (vM v 559 6 (0 : Int32))
set_option maxHeartbeats 4000000 in
set_option maxRecDepth 100000 in
theorem w_X12_plain_0 {E : gE} {d : Nat} {Q : gO → gS → Prop}   (hd : 0 ≤ d) (x1 : Int32) (v : gV) (hp : p_X12_plain_0   x1 v) (hQ : gqIV Q (f_X12_plain_0  x1 v)) : gG E m_X12_plain d Q 0 0 (rS v) 0 [(0, .ref (gX E + 559)), (1, .int x1)] [] := by
  refine g_aload_n 0 dX12_plain_0 rfl ?_
  refine g_iconst dX12_plain_1 (0 : Int32) (by decide) ?_
  refine r_put pf_X12_28_X12 rfl (by decide : kd 559 = (0, 9)) (by decide) (by decide) rfl (show 559 < 572 by decide) rfl rfl dX12_plain_2 ?_
  refine g_lv (lv' := [(1, .int x1)]) [1] rfl ?_
  exact w_X12_plain_5  hd    x1 (vM v 559 6 (0 : Int32)) hp hQ
def f_X12_plain  (x1 : Int32) (v : gV) : Int32 × gV := f_X12_plain_0 x1 v
def p_X12_plain  (x1 : Int32) (v : gV) : Prop := p_X12_plain_0 x1 v
theorem c_X12_plain {E : gE} {d : Nat}   (hd : 0 ≤ d) (x1 : Int32) (v : gV) (hp : p_X12_plain x1 v) : CT E m_X12_plain d 0 0 [.ref (gX E + 559), .int x1] (rS v) (Cq (.inl (some (.int ((f_X12_plain x1 v).1)))) (f_X12_plain x1 v).2) := CT.of ok_X12_plain rfl (Nat.le_of_ble_eq_true rfl) (w_X12_plain_0  hd x1 v hp ⟨rfl, rfl⟩)
def f_X12_checked_13   (v : gV) : Int32 × gV := (v.1 559 6, v)
def p_X12_checked_13   (v : gV) : Prop := True
set_option maxHeartbeats 4000000 in
set_option maxRecDepth 100000 in
theorem w_X12_checked_13 {E : gE} {d : Nat} {Q : gO → gS → Prop}   (hd : 0 ≤ d)  (v : gV) (hp : p_X12_checked_13    v) (hQ : gqIV Q (f_X12_checked_13   v)) : gG E m_X12_checked d Q 0 0 (rS v) 13 [(0, .ref (gX E + 559))] [] := by
  refine g_aload_n 0 dX12_checked_13 rfl ?_
  refine r_get (.int (v.1 559 6)) f_X12_28_X12 rfl (by decide : kd 559 = (0, 9)) (show 559 < 572 by decide) dX12_checked_14 (fun _ => rfl) ?_
  exact g_iret rfl dX12_checked_17 hQ
def f_X12_checked_10  (s0 : Int32) (v : gV) : Int32 × gV := f_X12_checked_13   (vM v 559 6 s0)
def p_X12_checked_10  (s0 : Int32) (v : gV) : Prop := p_X12_checked_13    (vM v 559 6 s0)
set_option maxHeartbeats 4000000 in
set_option maxRecDepth 100000 in
theorem w_X12_checked_10 {E : gE} {d : Nat} {Q : gO → gS → Prop}   (hd : 0 ≤ d) (s0 : Int32) (v : gV) (hp : p_X12_checked_10   s0 v) (hQ : gqIV Q (f_X12_checked_10  s0 v)) : gG E m_X12_checked d Q 0 0 (rS v) 10 [(0, .ref (gX E + 559))] [.int s0, .ref (gX E + 559)] := by
  refine r_put pf_X12_28_X12 rfl (by decide : kd 559 = (0, 9)) (by decide) (by decide) rfl (show 559 < 572 by decide) rfl rfl dX12_checked_10 ?_
  exact w_X12_checked_13  hd     (vM v 559 6 s0) hp hQ
def f_X12_checked_0  (x1 : Int32) (v : gV) : Int32 × gV := if x1 = 0 then (f_X12_checked_10  (1 : Int32) v) else (f_X12_checked_10  (0 : Int32) v)
def p_X12_checked_0  (x1 : Int32) (v : gV) : Prop := ((x1 = 0) → (p_X12_checked_10   (1 : Int32) v)) ∧ (¬ (x1 = 0) → (p_X12_checked_10   (0 : Int32) v))
set_option maxHeartbeats 4000000 in
set_option maxRecDepth 100000 in
theorem w_X12_checked_0 {E : gE} {d : Nat} {Q : gO → gS → Prop}   (hd : 0 ≤ d) (x1 : Int32) (v : gV) (hp : p_X12_checked_0   x1 v) (hQ : gqIV Q (f_X12_checked_0  x1 v)) : gG E m_X12_checked d Q 0 0 (rS v) 0 [(0, .ref (gX E + 559)), (1, .int x1)] [] := by
  refine g_aload_n 0 dX12_checked_0 rfl ?_
  refine g_iload_n 1 dX12_checked_1 rfl ?_
  refine g_if_eq 9 dX12_checked_2 (by decide) (fun h1 => ?_) (fun h1 => ?_)
  · have hQ := qp (P := gqIV Q) h1 hQ
    have hp := hp.1 h1
    refine g_iconst dX12_checked_9 (1 : Int32) (by decide) ?_
    refine g_lv (lv' := [(0, .ref (gX E + 559))]) [0] rfl ?_
    exact w_X12_checked_10  hd    (1 : Int32) v hp hQ
  · have hQ := qn (P := gqIV Q) h1 hQ
    have hp := hp.2 h1
    refine g_iconst dX12_checked_5 (0 : Int32) (by decide) ?_
    refine g_goto 10 dX12_checked_6 (by decide) ?_
    refine g_lv (lv' := [(0, .ref (gX E + 559))]) [0] rfl ?_
    exact w_X12_checked_10  hd    (0 : Int32) v hp hQ
def f_X12_checked  (x1 : Int32) (v : gV) : Int32 × gV := f_X12_checked_0 x1 v
def p_X12_checked  (x1 : Int32) (v : gV) : Prop := p_X12_checked_0 x1 v
theorem c_X12_checked {E : gE} {d : Nat}   (hd : 0 ≤ d) (x1 : Int32) (v : gV) (hp : p_X12_checked x1 v) : CT E m_X12_checked d 0 0 [.ref (gX E + 559), .int x1] (rS v) (Cq (.inl (some (.int ((f_X12_checked x1 v).1)))) (f_X12_checked x1 v).2) := CT.of ok_X12_checked rfl (Nat.le_of_ble_eq_true rfl) (w_X12_checked_0  hd x1 v hp ⟨rfl, rfl⟩)
def f_X12_day_11  (s0 : Int32) (v : gV) : Int32 × gV := (s0, v)
def p_X12_day_11  (s0 : Int32) (v : gV) : Prop := True
set_option maxHeartbeats 4000000 in
set_option maxRecDepth 100000 in
theorem w_X12_day_11 {E : gE} {d : Nat} {Q : gO → gS → Prop}   (hd : 1 ≤ d) (s0 : Int32) (v : gV) (hp : p_X12_day_11   s0 v) (hQ : gqIV Q (f_X12_day_11  s0 v)) : gG E m_X12_day d Q 0 0 (rS v) 11 [] [.int s0] := by
  exact g_iret rfl dX12_day_11 hQ
def f_X12_day_0   (v : gV) : Int32 × gV := f_X12_day_11  ((f_X12_plain (v.1 560 (6 : Int32).toNatClampNeg) v).1) (f_X12_plain (v.1 560 (6 : Int32).toNatClampNeg) v).2
def p_X12_day_0   (v : gV) : Prop := (p_X12_plain (v.1 560 (6 : Int32).toNatClampNeg) v) ∧ (p_X12_day_11   ((f_X12_plain (v.1 560 (6 : Int32).toNatClampNeg) v).1) (f_X12_plain (v.1 560 (6 : Int32).toNatClampNeg) v).2)
set_option maxHeartbeats 4000000 in
set_option maxRecDepth 100000 in
theorem w_X12_day_0 {E : gE} {d : Nat} {Q : gO → gS → Prop}   (hd : 1 ≤ d)  (v : gV) (hp : p_X12_day_0    v) (hQ : gqIV Q (f_X12_day_0   v)) : gG E m_X12_day d Q 0 0 (rS v) 0 [(0, .ref (gX E + 559))] [] := by
  refine g_aload_n 0 dX12_day_0 rfl ?_
  refine g_aload_n 0 dX12_day_1 rfl ?_
  refine r_get (.ref (gX E + 560)) f_X12_7_X12 rfl (by decide : kd 559 = (0, 9)) (show 559 < 572 by decide) dX12_day_2 (fun _ => rfl) ?_
  refine g_bipush dX12_day_5 (6 : Int32) (by decide) ?_
  refine g_iald (by decide : kd 560 = (1, 300)) (show 560 < 572 by decide) (show ¬ (_ ∨ _) by decide) dX12_day_7 ?_
  obtain ⟨h1, hp⟩ := hp
  refine g_callV (rest := []) s_X12_210_X12 rfl (c_X12_plain (E := E) (d := d - 1)   (by omega) (v.1 560 (6 : Int32).toNatClampNeg) v h1) (by decide : kd 559 = (0, 9)) (show 559 < 572 by decide) rfl rfl (Nat.le_of_ble_eq_true rfl) (by omega) (by decide) (by decide) dX12_day_8 (adV ?_) axN
  refine g_lv (lv' := []) [] rfl ?_
  exact w_X12_day_11  hd    ((f_X12_plain (v.1 560 (6 : Int32).toNatClampNeg) v).1) (f_X12_plain (v.1 560 (6 : Int32).toNatClampNeg) v).2 hp hQ
def f_X12_day   (v : gV) : Int32 × gV := f_X12_day_0  v
def p_X12_day   (v : gV) : Prop := p_X12_day_0  v
theorem c_X12_day {E : gE} {d : Nat}   (hd : 1 ≤ d)  (v : gV) (hp : p_X12_day  v) : CT E m_X12_day d 0 0 [.ref (gX E + 559)] (rS v) (Cq (.inl (some (.int ((f_X12_day  v).1)))) (f_X12_day  v).2) := CT.of ok_X12_day rfl (Nat.le_of_ble_eq_true rfl) (w_X12_day_0  hd  v hp ⟨rfl, rfl⟩)
def f_X12_cash_11  (s0 : Int32) (v : gV) : Int32 × gV := (s0, v)
def p_X12_cash_11  (s0 : Int32) (v : gV) : Prop := True
set_option maxHeartbeats 4000000 in
set_option maxRecDepth 100000 in
theorem w_X12_cash_11 {E : gE} {d : Nat} {Q : gO → gS → Prop}   (hd : 1 ≤ d) (s0 : Int32) (v : gV) (hp : p_X12_cash_11   s0 v) (hQ : gqIV Q (f_X12_cash_11  s0 v)) : gG E m_X12_cash d Q 0 0 (rS v) 11 [] [.int s0] := by
  exact g_iret rfl dX12_cash_11 hQ
def f_X12_cash_0   (v : gV) : Int32 × gV := f_X12_cash_11  ((f_X12_plain (v.1 560 (7 : Int32).toNatClampNeg) v).1) (f_X12_plain (v.1 560 (7 : Int32).toNatClampNeg) v).2
def p_X12_cash_0   (v : gV) : Prop := (p_X12_plain (v.1 560 (7 : Int32).toNatClampNeg) v) ∧ (p_X12_cash_11   ((f_X12_plain (v.1 560 (7 : Int32).toNatClampNeg) v).1) (f_X12_plain (v.1 560 (7 : Int32).toNatClampNeg) v).2)
set_option maxHeartbeats 4000000 in
set_option maxRecDepth 100000 in
theorem w_X12_cash_0 {E : gE} {d : Nat} {Q : gO → gS → Prop}   (hd : 1 ≤ d)  (v : gV) (hp : p_X12_cash_0    v) (hQ : gqIV Q (f_X12_cash_0   v)) : gG E m_X12_cash d Q 0 0 (rS v) 0 [(0, .ref (gX E + 559))] [] := by
  refine g_aload_n 0 dX12_cash_0 rfl ?_
  refine g_aload_n 0 dX12_cash_1 rfl ?_
  refine r_get (.ref (gX E + 560)) f_X12_7_X12 rfl (by decide : kd 559 = (0, 9)) (show 559 < 572 by decide) dX12_cash_2 (fun _ => rfl) ?_
  refine g_bipush dX12_cash_5 (7 : Int32) (by decide) ?_
  refine g_iald (by decide : kd 560 = (1, 300)) (show 560 < 572 by decide) (show ¬ (_ ∨ _) by decide) dX12_cash_7 ?_
  obtain ⟨h1, hp⟩ := hp
  refine g_callV (rest := []) s_X12_210_X12 rfl (c_X12_plain (E := E) (d := d - 1)   (by omega) (v.1 560 (7 : Int32).toNatClampNeg) v h1) (by decide : kd 559 = (0, 9)) (show 559 < 572 by decide) rfl rfl (Nat.le_of_ble_eq_true rfl) (by omega) (by decide) (by decide) dX12_cash_8 (adV ?_) axN
  refine g_lv (lv' := []) [] rfl ?_
  exact w_X12_cash_11  hd    ((f_X12_plain (v.1 560 (7 : Int32).toNatClampNeg) v).1) (f_X12_plain (v.1 560 (7 : Int32).toNatClampNeg) v).2 hp hQ
def f_X12_cash   (v : gV) : Int32 × gV := f_X12_cash_0  v
def p_X12_cash   (v : gV) : Prop := p_X12_cash_0  v
theorem c_X12_cash {E : gE} {d : Nat}   (hd : 1 ≤ d)  (v : gV) (hp : p_X12_cash  v) : CT E m_X12_cash d 0 0 [.ref (gX E + 559)] (rS v) (Cq (.inl (some (.int ((f_X12_cash  v).1)))) (f_X12_cash  v).2) := CT.of ok_X12_cash rfl (Nat.le_of_ble_eq_true rfl) (w_X12_cash_0  hd  v hp ⟨rfl, rfl⟩)
def f_X12_policyCount_10  (s0 : Int32) (v : gV) : Int32 × gV := (s0, v)
def p_X12_policyCount_10  (s0 : Int32) (v : gV) : Prop := True
set_option maxHeartbeats 4000000 in
set_option maxRecDepth 100000 in
theorem w_X12_policyCount_10 {E : gE} {d : Nat} {Q : gO → gS → Prop}   (hd : 1 ≤ d) (s0 : Int32) (v : gV) (hp : p_X12_policyCount_10   s0 v) (hQ : gqIV Q (f_X12_policyCount_10  s0 v)) : gG E m_X12_policyCount d Q 0 0 (rS v) 10 [] [.int s0] := by
  exact g_iret rfl dX12_policyCount_10 hQ
def f_X12_policyCount_0   (v : gV) : Int32 × gV := f_X12_policyCount_10  ((f_X12_plain (v.1 560 (0 : Int32).toNatClampNeg) v).1) (f_X12_plain (v.1 560 (0 : Int32).toNatClampNeg) v).2
def p_X12_policyCount_0   (v : gV) : Prop := (p_X12_plain (v.1 560 (0 : Int32).toNatClampNeg) v) ∧ (p_X12_policyCount_10   ((f_X12_plain (v.1 560 (0 : Int32).toNatClampNeg) v).1) (f_X12_plain (v.1 560 (0 : Int32).toNatClampNeg) v).2)
set_option maxHeartbeats 4000000 in
set_option maxRecDepth 100000 in
theorem w_X12_policyCount_0 {E : gE} {d : Nat} {Q : gO → gS → Prop}   (hd : 1 ≤ d)  (v : gV) (hp : p_X12_policyCount_0    v) (hQ : gqIV Q (f_X12_policyCount_0   v)) : gG E m_X12_policyCount d Q 0 0 (rS v) 0 [(0, .ref (gX E + 559))] [] := by
  refine g_aload_n 0 dX12_policyCount_0 rfl ?_
  refine g_aload_n 0 dX12_policyCount_1 rfl ?_
  refine r_get (.ref (gX E + 560)) f_X12_7_X12 rfl (by decide : kd 559 = (0, 9)) (show 559 < 572 by decide) dX12_policyCount_2 (fun _ => rfl) ?_
  refine g_iconst dX12_policyCount_5 (0 : Int32) (by decide) ?_
  refine g_iald (by decide : kd 560 = (1, 300)) (show 560 < 572 by decide) (show ¬ (_ ∨ _) by decide) dX12_policyCount_6 ?_
  obtain ⟨h1, hp⟩ := hp
  refine g_callV (rest := []) s_X12_210_X12 rfl (c_X12_plain (E := E) (d := d - 1)   (by omega) (v.1 560 (0 : Int32).toNatClampNeg) v h1) (by decide : kd 559 = (0, 9)) (show 559 < 572 by decide) rfl rfl (Nat.le_of_ble_eq_true rfl) (by omega) (by decide) (by decide) dX12_policyCount_7 (adV ?_) axN
  refine g_lv (lv' := []) [] rfl ?_
  exact w_X12_policyCount_10  hd    ((f_X12_plain (v.1 560 (0 : Int32).toNatClampNeg) v).1) (f_X12_plain (v.1 560 (0 : Int32).toNatClampNeg) v).2 hp hQ
def f_X12_policyCount   (v : gV) : Int32 × gV := f_X12_policyCount_0  v
def p_X12_policyCount   (v : gV) : Prop := p_X12_policyCount_0  v
theorem c_X12_policyCount {E : gE} {d : Nat}   (hd : 1 ≤ d)  (v : gV) (hp : p_X12_policyCount  v) : CT E m_X12_policyCount d 0 0 [.ref (gX E + 559)] (rS v) (Cq (.inl (some (.int ((f_X12_policyCount  v).1)))) (f_X12_policyCount  v).2) := CT.of ok_X12_policyCount rfl (Nat.le_of_ble_eq_true rfl) (w_X12_policyCount_0  hd  v hp ⟨rfl, rfl⟩)
def f_X12_policyAt_30  (s0 : Int32) (v : gV) : Int32 × gV := (s0, v)
def p_X12_policyAt_30  (s0 : Int32) (v : gV) : Prop := True
set_option maxHeartbeats 4000000 in
set_option maxRecDepth 100000 in
theorem w_X12_policyAt_30 {E : gE} {d : Nat} {Q : gO → gS → Prop}   (hd : 1 ≤ d) (s0 : Int32) (v : gV) (hp : p_X12_policyAt_30   s0 v) (hQ : gqIV Q (f_X12_policyAt_30  s0 v)) : gG E m_X12_policyAt d Q 0 0 (rS v) 30 [] [.int s0] := by
  exact g_iret rfl dX12_policyAt_30 hQ
def f_X12_policyAt_17  (x1 : Int32) (s0 : Int32) (v : gV) : Int32 × gV := if s0 ≤ 0 then (f_X12_policyAt_30  (f_X12_p x1 (0 : Int32) v) v) else (f_X12_policyAt_30  (0 : Int32) v)
def p_X12_policyAt_17  (x1 : Int32) (s0 : Int32) (v : gV) : Prop := ((s0 ≤ 0) → ((p_X12_p x1 (0 : Int32) v) ∧ (p_X12_policyAt_30   (f_X12_p x1 (0 : Int32) v) v))) ∧ (¬ (s0 ≤ 0) → (p_X12_policyAt_30   (0 : Int32) v))
set_option maxHeartbeats 4000000 in
set_option maxRecDepth 100000 in
theorem w_X12_policyAt_17 {E : gE} {d : Nat} {Q : gO → gS → Prop}   (hd : 1 ≤ d) (x1 : Int32) (s0 : Int32) (v : gV) (hp : p_X12_policyAt_17   x1 s0 v) (hQ : gqIV Q (f_X12_policyAt_17  x1 s0 v)) : gG E m_X12_policyAt d Q 0 0 (rS v) 17 [(0, .ref (gX E + 559)), (1, .int x1)] [.int s0] := by
  refine g_if_le 24 dX12_policyAt_17 (by decide) (fun h3 => ?_) (fun h3 => ?_)
  · have hQ := qp (P := gqIV Q) h3 hQ
    have hp := hp.1 h3
    refine g_aload_n 0 dX12_policyAt_24 rfl ?_
    refine g_iload_n 1 dX12_policyAt_25 rfl ?_
    refine g_iconst dX12_policyAt_26 (0 : Int32) (by decide) ?_
    obtain ⟨h4, hp⟩ := hp
    refine g_callV (rest := []) s_X12_79_X12 rfl (c_X12_p (E := E) (d := d - 1)   (by omega) x1 (0 : Int32) v h4) (by decide : kd 559 = (0, 9)) (show 559 < 572 by decide) rfl rfl (Nat.le_of_ble_eq_true rfl) (by omega) (by decide) (by decide) dX12_policyAt_27 (adV ?_) axN
    refine g_lv (lv' := []) [] rfl ?_
    exact w_X12_policyAt_30  hd    (f_X12_p x1 (0 : Int32) v) v hp hQ
  · have hQ := qn (P := gqIV Q) h3 hQ
    have hp := hp.2 h3
    refine g_iconst dX12_policyAt_20 (0 : Int32) (by decide) ?_
    refine g_goto 30 dX12_policyAt_21 (by decide) ?_
    refine g_lv (lv' := []) [] rfl ?_
    exact w_X12_policyAt_30  hd    (0 : Int32) v hp hQ
def f_X12_policyAt_0  (x1 : Int32) (v : gV) : Int32 × gV := f_X12_policyAt_17  x1 ((f_X12_checked (f_X12_in x1 (0 : Int32) ((v.1 560 (0 : Int32).toNatClampNeg) - (1 : Int32)) v) v).1) (f_X12_checked (f_X12_in x1 (0 : Int32) ((v.1 560 (0 : Int32).toNatClampNeg) - (1 : Int32)) v) v).2
def p_X12_policyAt_0  (x1 : Int32) (v : gV) : Prop := (p_X12_in x1 (0 : Int32) ((v.1 560 (0 : Int32).toNatClampNeg) - (1 : Int32)) v) ∧ ((p_X12_checked (f_X12_in x1 (0 : Int32) ((v.1 560 (0 : Int32).toNatClampNeg) - (1 : Int32)) v) v) ∧ (p_X12_policyAt_17   x1 ((f_X12_checked (f_X12_in x1 (0 : Int32) ((v.1 560 (0 : Int32).toNatClampNeg) - (1 : Int32)) v) v).1) (f_X12_checked (f_X12_in x1 (0 : Int32) ((v.1 560 (0 : Int32).toNatClampNeg) - (1 : Int32)) v) v).2))
set_option maxHeartbeats 4000000 in
set_option maxRecDepth 100000 in
theorem w_X12_policyAt_0 {E : gE} {d : Nat} {Q : gO → gS → Prop}   (hd : 1 ≤ d) (x1 : Int32) (v : gV) (hp : p_X12_policyAt_0   x1 v) (hQ : gqIV Q (f_X12_policyAt_0  x1 v)) : gG E m_X12_policyAt d Q 0 0 (rS v) 0 [(0, .ref (gX E + 559)), (1, .int x1)] [] := by
  refine g_aload_n 0 dX12_policyAt_0 rfl ?_
  refine g_iload_n 1 dX12_policyAt_1 rfl ?_
  refine g_iconst dX12_policyAt_2 (0 : Int32) (by decide) ?_
  refine g_aload_n 0 dX12_policyAt_3 rfl ?_
  refine r_get (.ref (gX E + 560)) f_X12_7_X12 rfl (by decide : kd 559 = (0, 9)) (show 559 < 572 by decide) dX12_policyAt_4 (fun _ => rfl) ?_
  refine g_iconst dX12_policyAt_7 (0 : Int32) (by decide) ?_
  refine g_iald (by decide : kd 560 = (1, 300)) (show 560 < 572 by decide) (show ¬ (_ ∨ _) by decide) dX12_policyAt_8 ?_
  refine g_iconst dX12_policyAt_9 (1 : Int32) (by decide) ?_
  refine g_isub dX12_policyAt_10 ?_
  obtain ⟨h1, hp⟩ := hp
  refine g_callS (rest := [.ref (gX E + 559)]) s_X12_83 rfl (c_X12_in (E := E) (d := d - 1)   (by omega) x1 (0 : Int32) ((v.1 560 (0 : Int32).toNatClampNeg) - (1 : Int32)) v h1) rfl rfl (Nat.le_of_ble_eq_true rfl) (by omega) (by decide) (by decide) dX12_policyAt_11 (adV ?_) axN
  obtain ⟨h2, hp⟩ := hp
  refine g_callV (rest := []) s_X12_213_X12 rfl (c_X12_checked (E := E) (d := d - 1)   (by omega) (f_X12_in x1 (0 : Int32) ((v.1 560 (0 : Int32).toNatClampNeg) - (1 : Int32)) v) v h2) (by decide : kd 559 = (0, 9)) (show 559 < 572 by decide) rfl rfl (Nat.le_of_ble_eq_true rfl) (by omega) (by decide) (by decide) dX12_policyAt_14 (adV ?_) axN
  exact w_X12_policyAt_17  hd    x1 ((f_X12_checked (f_X12_in x1 (0 : Int32) ((v.1 560 (0 : Int32).toNatClampNeg) - (1 : Int32)) v) v).1) (f_X12_checked (f_X12_in x1 (0 : Int32) ((v.1 560 (0 : Int32).toNatClampNeg) - (1 : Int32)) v) v).2 hp hQ
def f_X12_policyAt  (x1 : Int32) (v : gV) : Int32 × gV := f_X12_policyAt_0 x1 v
def p_X12_policyAt  (x1 : Int32) (v : gV) : Prop := p_X12_policyAt_0 x1 v
theorem c_X12_policyAt {E : gE} {d : Nat}   (hd : 1 ≤ d) (x1 : Int32) (v : gV) (hp : p_X12_policyAt x1 v) : CT E m_X12_policyAt d 0 0 [.ref (gX E + 559), .int x1] (rS v) (Cq (.inl (some (.int ((f_X12_policyAt x1 v).1)))) (f_X12_policyAt x1 v).2) := CT.of ok_X12_policyAt rfl (Nat.le_of_ble_eq_true rfl) (w_X12_policyAt_0  hd x1 v hp ⟨rfl, rfl⟩)
def f_X12_ofPolicy_34  (s0 : Int32) (v : gV) : Int32 × gV := (s0, v)
def p_X12_ofPolicy_34  (s0 : Int32) (v : gV) : Prop := True
set_option maxHeartbeats 4000000 in
set_option maxRecDepth 100000 in
theorem w_X12_ofPolicy_34 {E : gE} {d : Nat} {Q : gO → gS → Prop}   (hd : 2 ≤ d) (s0 : Int32) (v : gV) (hp : p_X12_ofPolicy_34   s0 v) (hQ : gqIV Q (f_X12_ofPolicy_34  s0 v)) : gG E m_X12_ofPolicy d Q 0 0 (rS v) 34 [] [.int s0] := by
  exact g_iret rfl dX12_ofPolicy_34 hQ
def f_X12_ofPolicy_17  (x1 : Int32) (x2 : Int32) (s0 : Int32) (v : gV) : Int32 × gV := if s0 ≤ 0 then (f_X12_ofPolicy_34  (f_X12_p (f_X12_policy x1 v) x2 v) v) else (f_X12_ofPolicy_34  (0 : Int32) v)
def p_X12_ofPolicy_17  (x1 : Int32) (x2 : Int32) (s0 : Int32) (v : gV) : Prop := ((s0 ≤ 0) → ((p_X12_policy x1 v) ∧ ((p_X12_p (f_X12_policy x1 v) x2 v) ∧ (p_X12_ofPolicy_34   (f_X12_p (f_X12_policy x1 v) x2 v) v)))) ∧ (¬ (s0 ≤ 0) → (p_X12_ofPolicy_34   (0 : Int32) v))
set_option maxHeartbeats 4000000 in
set_option maxRecDepth 100000 in
theorem w_X12_ofPolicy_17 {E : gE} {d : Nat} {Q : gO → gS → Prop}   (hd : 2 ≤ d) (x1 : Int32) (x2 : Int32) (s0 : Int32) (v : gV) (hp : p_X12_ofPolicy_17   x1 x2 s0 v) (hQ : gqIV Q (f_X12_ofPolicy_17  x1 x2 s0 v)) : gG E m_X12_ofPolicy d Q 0 0 (rS v) 17 [(0, .ref (gX E + 559)), (1, .int x1), (2, .int x2)] [.int s0] := by
  refine g_if_le 24 dX12_ofPolicy_17 (by decide) (fun h4 => ?_) (fun h4 => ?_)
  · have hQ := qp (P := gqIV Q) h4 hQ
    have hp := hp.1 h4
    refine g_aload_n 0 dX12_ofPolicy_24 rfl ?_
    refine g_aload_n 0 dX12_ofPolicy_25 rfl ?_
    refine g_iload_n 1 dX12_ofPolicy_26 rfl ?_
    obtain ⟨h5, hp⟩ := hp
    refine g_callV (rest := [.ref (gX E + 559)]) s_X12_107_X12 rfl (c_X12_policy (E := E) (d := d - 1)   (by omega) x1 v h5) (by decide : kd 559 = (0, 9)) (show 559 < 572 by decide) rfl rfl (Nat.le_of_ble_eq_true rfl) (by omega) (by decide) (by decide) dX12_ofPolicy_27 (adV ?_) axN
    refine g_iload_n 2 dX12_ofPolicy_30 rfl ?_
    obtain ⟨h6, hp⟩ := hp
    refine g_callV (rest := []) s_X12_79_X12 rfl (c_X12_p (E := E) (d := d - 1)   (by omega) (f_X12_policy x1 v) x2 v h6) (by decide : kd 559 = (0, 9)) (show 559 < 572 by decide) rfl rfl (Nat.le_of_ble_eq_true rfl) (by omega) (by decide) (by decide) dX12_ofPolicy_31 (adV ?_) axN
    refine g_lv (lv' := []) [] rfl ?_
    exact w_X12_ofPolicy_34  hd    (f_X12_p (f_X12_policy x1 v) x2 v) v hp hQ
  · have hQ := qn (P := gqIV Q) h4 hQ
    have hp := hp.2 h4
    refine g_iconst dX12_ofPolicy_20 (0 : Int32) (by decide) ?_
    refine g_goto 34 dX12_ofPolicy_21 (by decide) ?_
    refine g_lv (lv' := []) [] rfl ?_
    exact w_X12_ofPolicy_34  hd    (0 : Int32) v hp hQ
def f_X12_ofPolicy_14  (x1 : Int32) (x2 : Int32) (s0 : Int32) (v : gV) : Int32 × gV := f_X12_ofPolicy_17  x1 x2 ((f_X12_checked s0 v).1) (f_X12_checked s0 v).2
def p_X12_ofPolicy_14  (x1 : Int32) (x2 : Int32) (s0 : Int32) (v : gV) : Prop := (p_X12_checked s0 v) ∧ (p_X12_ofPolicy_17   x1 x2 ((f_X12_checked s0 v).1) (f_X12_checked s0 v).2)
set_option maxHeartbeats 4000000 in
set_option maxRecDepth 100000 in
theorem w_X12_ofPolicy_14 {E : gE} {d : Nat} {Q : gO → gS → Prop}   (hd : 2 ≤ d) (x1 : Int32) (x2 : Int32) (s0 : Int32) (v : gV) (hp : p_X12_ofPolicy_14   x1 x2 s0 v) (hQ : gqIV Q (f_X12_ofPolicy_14  x1 x2 s0 v)) : gG E m_X12_ofPolicy d Q 0 0 (rS v) 14 [(0, .ref (gX E + 559)), (1, .int x1), (2, .int x2)] [.int s0, .ref (gX E + 559)] := by
  obtain ⟨h3, hp⟩ := hp
  refine g_callV (rest := []) s_X12_213_X12 rfl (c_X12_checked (E := E) (d := d - 1)   (by omega) s0 v h3) (by decide : kd 559 = (0, 9)) (show 559 < 572 by decide) rfl rfl (Nat.le_of_ble_eq_true rfl) (by omega) (by decide) (by decide) dX12_ofPolicy_14 (adV ?_) axN
  exact w_X12_ofPolicy_17  hd    x1 x2 ((f_X12_checked s0 v).1) (f_X12_checked s0 v).2 hp hQ
def f_X12_ofPolicy_0  (x1 : Int32) (x2 : Int32) (v : gV) : Int32 × gV := if (f_X12_policy x1 v) < 0 then (f_X12_ofPolicy_14  x1 x2 (0 : Int32) v) else (f_X12_ofPolicy_14  x1 x2 (1 : Int32) v)
def p_X12_ofPolicy_0  (x1 : Int32) (x2 : Int32) (v : gV) : Prop := (p_X12_policy x1 v) ∧ ((((f_X12_policy x1 v) < 0) → (p_X12_ofPolicy_14   x1 x2 (0 : Int32) v)) ∧ (¬ ((f_X12_policy x1 v) < 0) → (p_X12_ofPolicy_14   x1 x2 (1 : Int32) v)))
set_option maxHeartbeats 4000000 in
set_option maxRecDepth 100000 in
theorem w_X12_ofPolicy_0 {E : gE} {d : Nat} {Q : gO → gS → Prop}   (hd : 2 ≤ d) (x1 : Int32) (x2 : Int32) (v : gV) (hp : p_X12_ofPolicy_0   x1 x2 v) (hQ : gqIV Q (f_X12_ofPolicy_0  x1 x2 v)) : gG E m_X12_ofPolicy d Q 0 0 (rS v) 0 [(0, .ref (gX E + 559)), (1, .int x1), (2, .int x2)] [] := by
  refine g_aload_n 0 dX12_ofPolicy_0 rfl ?_
  refine g_aload_n 0 dX12_ofPolicy_1 rfl ?_
  refine g_iload_n 1 dX12_ofPolicy_2 rfl ?_
  obtain ⟨h1, hp⟩ := hp
  refine g_callV (rest := [.ref (gX E + 559)]) s_X12_107_X12 rfl (c_X12_policy (E := E) (d := d - 1)   (by omega) x1 v h1) (by decide : kd 559 = (0, 9)) (show 559 < 572 by decide) rfl rfl (Nat.le_of_ble_eq_true rfl) (by omega) (by decide) (by decide) dX12_ofPolicy_3 (adV ?_) axN
  refine g_if_lt 13 dX12_ofPolicy_6 (by decide) (fun h2 => ?_) (fun h2 => ?_)
  · have hQ := qp (P := gqIV Q) h2 hQ
    have hp := hp.1 h2
    refine g_iconst dX12_ofPolicy_13 (0 : Int32) (by decide) ?_
    exact w_X12_ofPolicy_14  hd    x1 x2 (0 : Int32) v hp hQ
  · have hQ := qn (P := gqIV Q) h2 hQ
    have hp := hp.2 h2
    refine g_iconst dX12_ofPolicy_9 (1 : Int32) (by decide) ?_
    refine g_goto 14 dX12_ofPolicy_10 (by decide) ?_
    exact w_X12_ofPolicy_14  hd    x1 x2 (1 : Int32) v hp hQ
def f_X12_ofPolicy  (x1 : Int32) (x2 : Int32) (v : gV) : Int32 × gV := f_X12_ofPolicy_0 x1 x2 v
def p_X12_ofPolicy  (x1 : Int32) (x2 : Int32) (v : gV) : Prop := p_X12_ofPolicy_0 x1 x2 v
theorem c_X12_ofPolicy {E : gE} {d : Nat}   (hd : 2 ≤ d) (x1 : Int32) (x2 : Int32) (v : gV) (hp : p_X12_ofPolicy x1 x2 v) : CT E m_X12_ofPolicy d 0 0 [.ref (gX E + 559), .int x1, .int x2] (rS v) (Cq (.inl (some (.int ((f_X12_ofPolicy x1 x2 v).1)))) (f_X12_ofPolicy x1 x2 v).2) := CT.of ok_X12_ofPolicy rfl (Nat.le_of_ble_eq_true rfl) (w_X12_ofPolicy_0  hd x1 x2 v hp ⟨rfl, rfl⟩)
def f_X12_sumOf_6  (s0 : Int32) (v : gV) : Int32 × gV := (s0, v)
def p_X12_sumOf_6  (s0 : Int32) (v : gV) : Prop := True
set_option maxHeartbeats 4000000 in
set_option maxRecDepth 100000 in
theorem w_X12_sumOf_6 {E : gE} {d : Nat} {Q : gO → gS → Prop}   (hd : 3 ≤ d) (s0 : Int32) (v : gV) (hp : p_X12_sumOf_6   s0 v) (hQ : gqIV Q (f_X12_sumOf_6  s0 v)) : gG E m_X12_sumOf d Q 0 0 (rS v) 6 [] [.int s0] := by
  exact g_iret rfl dX12_sumOf_6 hQ
def f_X12_sumOf_0  (x1 : Int32) (v : gV) : Int32 × gV := f_X12_sumOf_6  ((f_X12_ofPolicy x1 (1 : Int32) v).1) (f_X12_ofPolicy x1 (1 : Int32) v).2
def p_X12_sumOf_0  (x1 : Int32) (v : gV) : Prop := (p_X12_ofPolicy x1 (1 : Int32) v) ∧ (p_X12_sumOf_6   ((f_X12_ofPolicy x1 (1 : Int32) v).1) (f_X12_ofPolicy x1 (1 : Int32) v).2)
set_option maxHeartbeats 4000000 in
set_option maxRecDepth 100000 in
theorem w_X12_sumOf_0 {E : gE} {d : Nat} {Q : gO → gS → Prop}   (hd : 3 ≤ d) (x1 : Int32) (v : gV) (hp : p_X12_sumOf_0   x1 v) (hQ : gqIV Q (f_X12_sumOf_0  x1 v)) : gG E m_X12_sumOf d Q 0 0 (rS v) 0 [(0, .ref (gX E + 559)), (1, .int x1)] [] := by
  refine g_aload_n 0 dX12_sumOf_0 rfl ?_
  refine g_iload_n 1 dX12_sumOf_1 rfl ?_
  refine g_iconst dX12_sumOf_2 (1 : Int32) (by decide) ?_
  obtain ⟨h1, hp⟩ := hp
  refine g_callV (rest := []) s_X12_217_X12 rfl (c_X12_ofPolicy (E := E) (d := d - 1)   (by omega) x1 (1 : Int32) v h1) (by decide : kd 559 = (0, 9)) (show 559 < 572 by decide) rfl rfl (Nat.le_of_ble_eq_true rfl) (by omega) (by decide) (by decide) dX12_sumOf_3 (adV ?_) axN
  refine g_lv (lv' := []) [] rfl ?_
  exact w_X12_sumOf_6  hd    ((f_X12_ofPolicy x1 (1 : Int32) v).1) (f_X12_ofPolicy x1 (1 : Int32) v).2 hp hQ
def f_X12_sumOf  (x1 : Int32) (v : gV) : Int32 × gV := f_X12_sumOf_0 x1 v
def p_X12_sumOf  (x1 : Int32) (v : gV) : Prop := p_X12_sumOf_0 x1 v
theorem c_X12_sumOf {E : gE} {d : Nat}   (hd : 3 ≤ d) (x1 : Int32) (v : gV) (hp : p_X12_sumOf x1 v) : CT E m_X12_sumOf d 0 0 [.ref (gX E + 559), .int x1] (rS v) (Cq (.inl (some (.int ((f_X12_sumOf x1 v).1)))) (f_X12_sumOf x1 v).2) := CT.of ok_X12_sumOf rfl (Nat.le_of_ble_eq_true rfl) (w_X12_sumOf_0  hd x1 v hp ⟨rfl, rfl⟩)
def f_X12_sumLeft_13  (s0 : Int32) (s1 : Int32) (v : gV) : Int32 × gV := (s1 - s0, v)
def p_X12_sumLeft_13  (s0 : Int32) (s1 : Int32) (v : gV) : Prop := True
set_option maxHeartbeats 4000000 in
set_option maxRecDepth 100000 in
theorem w_X12_sumLeft_13 {E : gE} {d : Nat} {Q : gO → gS → Prop}   (hd : 3 ≤ d) (s0 : Int32) (s1 : Int32) (v : gV) (hp : p_X12_sumLeft_13   s0 s1 v) (hQ : gqIV Q (f_X12_sumLeft_13  s0 s1 v)) : gG E m_X12_sumLeft d Q 0 0 (rS v) 13 [] [.int s0, .int s1] := by
  refine g_isub dX12_sumLeft_13 ?_
  exact g_iret rfl dX12_sumLeft_14 hQ
def f_X12_sumLeft_6  (x1 : Int32) (s0 : Int32) (v : gV) : Int32 × gV := f_X12_sumLeft_13  ((f_X12_ofPolicy x1 (6 : Int32) v).1) s0 (f_X12_ofPolicy x1 (6 : Int32) v).2
def p_X12_sumLeft_6  (x1 : Int32) (s0 : Int32) (v : gV) : Prop := (p_X12_ofPolicy x1 (6 : Int32) v) ∧ (p_X12_sumLeft_13   ((f_X12_ofPolicy x1 (6 : Int32) v).1) s0 (f_X12_ofPolicy x1 (6 : Int32) v).2)
set_option maxHeartbeats 4000000 in
set_option maxRecDepth 100000 in
theorem w_X12_sumLeft_6 {E : gE} {d : Nat} {Q : gO → gS → Prop}   (hd : 3 ≤ d) (x1 : Int32) (s0 : Int32) (v : gV) (hp : p_X12_sumLeft_6   x1 s0 v) (hQ : gqIV Q (f_X12_sumLeft_6  x1 s0 v)) : gG E m_X12_sumLeft d Q 0 0 (rS v) 6 [(0, .ref (gX E + 559)), (1, .int x1)] [.int s0] := by
  refine g_aload_n 0 dX12_sumLeft_6 rfl ?_
  refine g_iload_n 1 dX12_sumLeft_7 rfl ?_
  refine g_bipush dX12_sumLeft_8 (6 : Int32) (by decide) ?_
  obtain ⟨h2, hp⟩ := hp
  refine g_callV (rest := [.int s0]) s_X12_217_X12 rfl (c_X12_ofPolicy (E := E) (d := d - 1)   (by omega) x1 (6 : Int32) v h2) (by decide : kd 559 = (0, 9)) (show 559 < 572 by decide) rfl rfl (Nat.le_of_ble_eq_true rfl) (by omega) (by decide) (by decide) dX12_sumLeft_10 (adV ?_) axN
  refine g_lv (lv' := []) [] rfl ?_
  exact w_X12_sumLeft_13  hd    ((f_X12_ofPolicy x1 (6 : Int32) v).1) s0 (f_X12_ofPolicy x1 (6 : Int32) v).2 hp hQ
def f_X12_sumLeft_0  (x1 : Int32) (v : gV) : Int32 × gV := f_X12_sumLeft_6  x1 ((f_X12_ofPolicy x1 (1 : Int32) v).1) (f_X12_ofPolicy x1 (1 : Int32) v).2
def p_X12_sumLeft_0  (x1 : Int32) (v : gV) : Prop := (p_X12_ofPolicy x1 (1 : Int32) v) ∧ (p_X12_sumLeft_6   x1 ((f_X12_ofPolicy x1 (1 : Int32) v).1) (f_X12_ofPolicy x1 (1 : Int32) v).2)
set_option maxHeartbeats 4000000 in
set_option maxRecDepth 100000 in
theorem w_X12_sumLeft_0 {E : gE} {d : Nat} {Q : gO → gS → Prop}   (hd : 3 ≤ d) (x1 : Int32) (v : gV) (hp : p_X12_sumLeft_0   x1 v) (hQ : gqIV Q (f_X12_sumLeft_0  x1 v)) : gG E m_X12_sumLeft d Q 0 0 (rS v) 0 [(0, .ref (gX E + 559)), (1, .int x1)] [] := by
  refine g_aload_n 0 dX12_sumLeft_0 rfl ?_
  refine g_iload_n 1 dX12_sumLeft_1 rfl ?_
  refine g_iconst dX12_sumLeft_2 (1 : Int32) (by decide) ?_
  obtain ⟨h1, hp⟩ := hp
  refine g_callV (rest := []) s_X12_217_X12 rfl (c_X12_ofPolicy (E := E) (d := d - 1)   (by omega) x1 (1 : Int32) v h1) (by decide : kd 559 = (0, 9)) (show 559 < 572 by decide) rfl rfl (Nat.le_of_ble_eq_true rfl) (by omega) (by decide) (by decide) dX12_sumLeft_3 (adV ?_) axN
  exact w_X12_sumLeft_6  hd    x1 ((f_X12_ofPolicy x1 (1 : Int32) v).1) (f_X12_ofPolicy x1 (1 : Int32) v).2 hp hQ
def f_X12_sumLeft  (x1 : Int32) (v : gV) : Int32 × gV := f_X12_sumLeft_0 x1 v
def p_X12_sumLeft  (x1 : Int32) (v : gV) : Prop := p_X12_sumLeft_0 x1 v
theorem c_X12_sumLeft {E : gE} {d : Nat}   (hd : 3 ≤ d) (x1 : Int32) (v : gV) (hp : p_X12_sumLeft x1 v) : CT E m_X12_sumLeft d 0 0 [.ref (gX E + 559), .int x1] (rS v) (Cq (.inl (some (.int ((f_X12_sumLeft x1 v).1)))) (f_X12_sumLeft x1 v).2) := CT.of ok_X12_sumLeft rfl (Nat.le_of_ble_eq_true rfl) (w_X12_sumLeft_0  hd x1 v hp ⟨rfl, rfl⟩)
def f_X12_riskOf_6  (s0 : Int32) (v : gV) : Int32 × gV := (s0, v)
def p_X12_riskOf_6  (s0 : Int32) (v : gV) : Prop := True
set_option maxHeartbeats 4000000 in
set_option maxRecDepth 100000 in
theorem w_X12_riskOf_6 {E : gE} {d : Nat} {Q : gO → gS → Prop}   (hd : 3 ≤ d) (s0 : Int32) (v : gV) (hp : p_X12_riskOf_6   s0 v) (hQ : gqIV Q (f_X12_riskOf_6  s0 v)) : gG E m_X12_riskOf d Q 0 0 (rS v) 6 [] [.int s0] := by
  exact g_iret rfl dX12_riskOf_6 hQ
def f_X12_riskOf_0  (x1 : Int32) (v : gV) : Int32 × gV := f_X12_riskOf_6  ((f_X12_ofPolicy x1 (2 : Int32) v).1) (f_X12_ofPolicy x1 (2 : Int32) v).2
def p_X12_riskOf_0  (x1 : Int32) (v : gV) : Prop := (p_X12_ofPolicy x1 (2 : Int32) v) ∧ (p_X12_riskOf_6   ((f_X12_ofPolicy x1 (2 : Int32) v).1) (f_X12_ofPolicy x1 (2 : Int32) v).2)
set_option maxHeartbeats 4000000 in
set_option maxRecDepth 100000 in
theorem w_X12_riskOf_0 {E : gE} {d : Nat} {Q : gO → gS → Prop}   (hd : 3 ≤ d) (x1 : Int32) (v : gV) (hp : p_X12_riskOf_0   x1 v) (hQ : gqIV Q (f_X12_riskOf_0  x1 v)) : gG E m_X12_riskOf d Q 0 0 (rS v) 0 [(0, .ref (gX E + 559)), (1, .int x1)] [] := by
  refine g_aload_n 0 dX12_riskOf_0 rfl ?_
  refine g_iload_n 1 dX12_riskOf_1 rfl ?_
  refine g_iconst dX12_riskOf_2 (2 : Int32) (by decide) ?_
  obtain ⟨h1, hp⟩ := hp
  refine g_callV (rest := []) s_X12_217_X12 rfl (c_X12_ofPolicy (E := E) (d := d - 1)   (by omega) x1 (2 : Int32) v h1) (by decide : kd 559 = (0, 9)) (show 559 < 572 by decide) rfl rfl (Nat.le_of_ble_eq_true rfl) (by omega) (by decide) (by decide) dX12_riskOf_3 (adV ?_) axN
  refine g_lv (lv' := []) [] rfl ?_
  exact w_X12_riskOf_6  hd    ((f_X12_ofPolicy x1 (2 : Int32) v).1) (f_X12_ofPolicy x1 (2 : Int32) v).2 hp hQ
def f_X12_riskOf  (x1 : Int32) (v : gV) : Int32 × gV := f_X12_riskOf_0 x1 v
def p_X12_riskOf  (x1 : Int32) (v : gV) : Prop := p_X12_riskOf_0 x1 v
theorem c_X12_riskOf {E : gE} {d : Nat}   (hd : 3 ≤ d) (x1 : Int32) (v : gV) (hp : p_X12_riskOf x1 v) : CT E m_X12_riskOf d 0 0 [.ref (gX E + 559), .int x1] (rS v) (Cq (.inl (some (.int ((f_X12_riskOf x1 v).1)))) (f_X12_riskOf x1 v).2) := CT.of ok_X12_riskOf rfl (Nat.le_of_ble_eq_true rfl) (w_X12_riskOf_0  hd x1 v hp ⟨rfl, rfl⟩)
def f_X12_premiumOf_6  (s0 : Int32) (v : gV) : Int32 × gV := (s0, v)
def p_X12_premiumOf_6  (s0 : Int32) (v : gV) : Prop := True
set_option maxHeartbeats 4000000 in
set_option maxRecDepth 100000 in
theorem w_X12_premiumOf_6 {E : gE} {d : Nat} {Q : gO → gS → Prop}   (hd : 3 ≤ d) (s0 : Int32) (v : gV) (hp : p_X12_premiumOf_6   s0 v) (hQ : gqIV Q (f_X12_premiumOf_6  s0 v)) : gG E m_X12_premiumOf d Q 0 0 (rS v) 6 [] [.int s0] := by
  exact g_iret rfl dX12_premiumOf_6 hQ
def f_X12_premiumOf_0  (x1 : Int32) (v : gV) : Int32 × gV := f_X12_premiumOf_6  ((f_X12_ofPolicy x1 (5 : Int32) v).1) (f_X12_ofPolicy x1 (5 : Int32) v).2
def p_X12_premiumOf_0  (x1 : Int32) (v : gV) : Prop := (p_X12_ofPolicy x1 (5 : Int32) v) ∧ (p_X12_premiumOf_6   ((f_X12_ofPolicy x1 (5 : Int32) v).1) (f_X12_ofPolicy x1 (5 : Int32) v).2)
set_option maxHeartbeats 4000000 in
set_option maxRecDepth 100000 in
theorem w_X12_premiumOf_0 {E : gE} {d : Nat} {Q : gO → gS → Prop}   (hd : 3 ≤ d) (x1 : Int32) (v : gV) (hp : p_X12_premiumOf_0   x1 v) (hQ : gqIV Q (f_X12_premiumOf_0  x1 v)) : gG E m_X12_premiumOf d Q 0 0 (rS v) 0 [(0, .ref (gX E + 559)), (1, .int x1)] [] := by
  refine g_aload_n 0 dX12_premiumOf_0 rfl ?_
  refine g_iload_n 1 dX12_premiumOf_1 rfl ?_
  refine g_iconst dX12_premiumOf_2 (5 : Int32) (by decide) ?_
  obtain ⟨h1, hp⟩ := hp
  refine g_callV (rest := []) s_X12_217_X12 rfl (c_X12_ofPolicy (E := E) (d := d - 1)   (by omega) x1 (5 : Int32) v h1) (by decide : kd 559 = (0, 9)) (show 559 < 572 by decide) rfl rfl (Nat.le_of_ble_eq_true rfl) (by omega) (by decide) (by decide) dX12_premiumOf_3 (adV ?_) axN
  refine g_lv (lv' := []) [] rfl ?_
  exact w_X12_premiumOf_6  hd    ((f_X12_ofPolicy x1 (5 : Int32) v).1) (f_X12_ofPolicy x1 (5 : Int32) v).2 hp hQ
def f_X12_premiumOf  (x1 : Int32) (v : gV) : Int32 × gV := f_X12_premiumOf_0 x1 v
def p_X12_premiumOf  (x1 : Int32) (v : gV) : Prop := p_X12_premiumOf_0 x1 v
theorem c_X12_premiumOf {E : gE} {d : Nat}   (hd : 3 ≤ d) (x1 : Int32) (v : gV) (hp : p_X12_premiumOf x1 v) : CT E m_X12_premiumOf d 0 0 [.ref (gX E + 559), .int x1] (rS v) (Cq (.inl (some (.int ((f_X12_premiumOf x1 v).1)))) (f_X12_premiumOf x1 v).2) := CT.of ok_X12_premiumOf rfl (Nat.le_of_ble_eq_true rfl) (w_X12_premiumOf_0  hd x1 v hp ⟨rfl, rfl⟩)
def f_X12_endOf_6  (s0 : Int32) (v : gV) : Int32 × gV := (s0, v)
def p_X12_endOf_6  (s0 : Int32) (v : gV) : Prop := True
set_option maxHeartbeats 4000000 in
set_option maxRecDepth 100000 in
theorem w_X12_endOf_6 {E : gE} {d : Nat} {Q : gO → gS → Prop}   (hd : 3 ≤ d) (s0 : Int32) (v : gV) (hp : p_X12_endOf_6   s0 v) (hQ : gqIV Q (f_X12_endOf_6  s0 v)) : gG E m_X12_endOf d Q 0 0 (rS v) 6 [] [.int s0] := by
  exact g_iret rfl dX12_endOf_6 hQ
def f_X12_endOf_0  (x1 : Int32) (v : gV) : Int32 × gV := f_X12_endOf_6  ((f_X12_ofPolicy x1 (4 : Int32) v).1) (f_X12_ofPolicy x1 (4 : Int32) v).2
def p_X12_endOf_0  (x1 : Int32) (v : gV) : Prop := (p_X12_ofPolicy x1 (4 : Int32) v) ∧ (p_X12_endOf_6   ((f_X12_ofPolicy x1 (4 : Int32) v).1) (f_X12_ofPolicy x1 (4 : Int32) v).2)
set_option maxHeartbeats 4000000 in
set_option maxRecDepth 100000 in
theorem w_X12_endOf_0 {E : gE} {d : Nat} {Q : gO → gS → Prop}   (hd : 3 ≤ d) (x1 : Int32) (v : gV) (hp : p_X12_endOf_0   x1 v) (hQ : gqIV Q (f_X12_endOf_0  x1 v)) : gG E m_X12_endOf d Q 0 0 (rS v) 0 [(0, .ref (gX E + 559)), (1, .int x1)] [] := by
  refine g_aload_n 0 dX12_endOf_0 rfl ?_
  refine g_iload_n 1 dX12_endOf_1 rfl ?_
  refine g_iconst dX12_endOf_2 (4 : Int32) (by decide) ?_
  obtain ⟨h1, hp⟩ := hp
  refine g_callV (rest := []) s_X12_217_X12 rfl (c_X12_ofPolicy (E := E) (d := d - 1)   (by omega) x1 (4 : Int32) v h1) (by decide : kd 559 = (0, 9)) (show 559 < 572 by decide) rfl rfl (Nat.le_of_ble_eq_true rfl) (by omega) (by decide) (by decide) dX12_endOf_3 (adV ?_) axN
  refine g_lv (lv' := []) [] rfl ?_
  exact w_X12_endOf_6  hd    ((f_X12_ofPolicy x1 (4 : Int32) v).1) (f_X12_ofPolicy x1 (4 : Int32) v).2 hp hQ
def f_X12_endOf  (x1 : Int32) (v : gV) : Int32 × gV := f_X12_endOf_0 x1 v
def p_X12_endOf  (x1 : Int32) (v : gV) : Prop := p_X12_endOf_0 x1 v
theorem c_X12_endOf {E : gE} {d : Nat}   (hd : 3 ≤ d) (x1 : Int32) (v : gV) (hp : p_X12_endOf x1 v) : CT E m_X12_endOf d 0 0 [.ref (gX E + 559), .int x1] (rS v) (Cq (.inl (some (.int ((f_X12_endOf x1 v).1)))) (f_X12_endOf x1 v).2) := CT.of ok_X12_endOf rfl (Nat.le_of_ble_eq_true rfl) (w_X12_endOf_0  hd x1 v hp ⟨rfl, rfl⟩)
def f_X12_isActive_37  (s0 : Int32) (v : gV) : Int32 × gV := (s0, v)
def p_X12_isActive_37  (s0 : Int32) (v : gV) : Prop := (s0 = 0 ∨ s0 = 1) ∧ (True)
set_option maxHeartbeats 4000000 in
set_option maxRecDepth 100000 in
theorem w_X12_isActive_37 {E : gE} {d : Nat} {Q : gO → gS → Prop}   (hd : 2 ≤ d) (s0 : Int32) (v : gV) (hp : p_X12_isActive_37   s0 v) (hQ : gqIV Q (f_X12_isActive_37  s0 v)) : gG E m_X12_isActive d Q 0 0 (rS v) 37 [] [.int s0] := by
  obtain ⟨h5, hp⟩ := hp
  exact g_zret rfl (nz h5) dX12_isActive_37 hQ
def f_X12_isActive_36   (v : gV) : Int32 × gV := f_X12_isActive_37  (0 : Int32) v
def p_X12_isActive_36   (v : gV) : Prop := p_X12_isActive_37   (0 : Int32) v
set_option maxHeartbeats 4000000 in
set_option maxRecDepth 100000 in
theorem w_X12_isActive_36 {E : gE} {d : Nat} {Q : gO → gS → Prop}   (hd : 2 ≤ d)  (v : gV) (hp : p_X12_isActive_36    v) (hQ : gqIV Q (f_X12_isActive_36   v)) : gG E m_X12_isActive d Q 0 0 (rS v) 36 [] [] := by
  refine g_iconst dX12_isActive_36 (0 : Int32) (by decide) ?_
  exact w_X12_isActive_37  hd    (0 : Int32) v hp hQ
def f_X12_isActive_17  (x1 : Int32) (s0 : Int32) (v : gV) : Int32 × gV := if s0 = 0 then (if (f_X12_isActiveAt (f_X12_policy x1 v) v) = 0 then (f_X12_isActive_36   v) else (f_X12_isActive_37  (1 : Int32) v)) else (f_X12_isActive_36   v)
def p_X12_isActive_17  (x1 : Int32) (s0 : Int32) (v : gV) : Prop := ((s0 = 0) → ((p_X12_policy x1 v) ∧ ((p_X12_isActiveAt (f_X12_policy x1 v) v) ∧ ((((f_X12_isActiveAt (f_X12_policy x1 v) v) = 0) → (p_X12_isActive_36    v)) ∧ (¬ ((f_X12_isActiveAt (f_X12_policy x1 v) v) = 0) → (p_X12_isActive_37   (1 : Int32) v)))))) ∧ (¬ (s0 = 0) → (p_X12_isActive_36    v))
set_option maxHeartbeats 4000000 in
set_option maxRecDepth 100000 in
theorem w_X12_isActive_17 {E : gE} {d : Nat} {Q : gO → gS → Prop}   (hd : 2 ≤ d) (x1 : Int32) (s0 : Int32) (v : gV) (hp : p_X12_isActive_17   x1 s0 v) (hQ : gqIV Q (f_X12_isActive_17  x1 s0 v)) : gG E m_X12_isActive d Q 0 0 (rS v) 17 [(0, .ref (gX E + 559)), (1, .int x1)] [.int s0] := by
  refine g_if_ne 36 dX12_isActive_17 (by decide) (fun h4 => ?_) (fun h4 => ?_)
  · have hQ := qn (P := gqIV Q) h4 hQ
    have hp := hp.2 h4
    refine g_lv (lv' := []) [] rfl ?_
    exact w_X12_isActive_36  hd     v hp hQ
  · have hQ := qp (P := gqIV Q) h4 hQ
    have hp := hp.1 h4
    refine g_aload_n 0 dX12_isActive_20 rfl ?_
    refine g_aload_n 0 dX12_isActive_21 rfl ?_
    refine g_iload_n 1 dX12_isActive_22 rfl ?_
    obtain ⟨h6, hp⟩ := hp
    refine g_callV (rest := [.ref (gX E + 559)]) s_X12_107_X12 rfl (c_X12_policy (E := E) (d := d - 1)   (by omega) x1 v h6) (by decide : kd 559 = (0, 9)) (show 559 < 572 by decide) rfl rfl (Nat.le_of_ble_eq_true rfl) (by omega) (by decide) (by decide) dX12_isActive_23 (adV ?_) axN
    obtain ⟨h7, hp⟩ := hp
    refine g_callV (rest := []) s_X12_114_X12 rfl (c_X12_isActiveAt (E := E) (d := d - 1)   (by omega) (f_X12_policy x1 v) v h7) (by decide : kd 559 = (0, 9)) (show 559 < 572 by decide) rfl rfl (Nat.le_of_ble_eq_true rfl) (by omega) (by decide) (by decide) dX12_isActive_26 (adV ?_) axN
    refine g_if_eq 36 dX12_isActive_29 (by decide) (fun h8 => ?_) (fun h8 => ?_)
    · have hQ := qp (P := gqIV Q) h8 hQ
      have hp := hp.1 h8
      refine g_lv (lv' := []) [] rfl ?_
      exact w_X12_isActive_36  hd     v hp hQ
    · have hQ := qn (P := gqIV Q) h8 hQ
      have hp := hp.2 h8
      refine g_iconst dX12_isActive_32 (1 : Int32) (by decide) ?_
      refine g_goto 37 dX12_isActive_33 (by decide) ?_
      refine g_lv (lv' := []) [] rfl ?_
      exact w_X12_isActive_37  hd    (1 : Int32) v hp hQ
def f_X12_isActive_14  (x1 : Int32) (s0 : Int32) (v : gV) : Int32 × gV := f_X12_isActive_17  x1 ((f_X12_checked s0 v).1) (f_X12_checked s0 v).2
def p_X12_isActive_14  (x1 : Int32) (s0 : Int32) (v : gV) : Prop := (p_X12_checked s0 v) ∧ (p_X12_isActive_17   x1 ((f_X12_checked s0 v).1) (f_X12_checked s0 v).2)
set_option maxHeartbeats 4000000 in
set_option maxRecDepth 100000 in
theorem w_X12_isActive_14 {E : gE} {d : Nat} {Q : gO → gS → Prop}   (hd : 2 ≤ d) (x1 : Int32) (s0 : Int32) (v : gV) (hp : p_X12_isActive_14   x1 s0 v) (hQ : gqIV Q (f_X12_isActive_14  x1 s0 v)) : gG E m_X12_isActive d Q 0 0 (rS v) 14 [(0, .ref (gX E + 559)), (1, .int x1)] [.int s0, .ref (gX E + 559)] := by
  obtain ⟨h3, hp⟩ := hp
  refine g_callV (rest := []) s_X12_213_X12 rfl (c_X12_checked (E := E) (d := d - 1)   (by omega) s0 v h3) (by decide : kd 559 = (0, 9)) (show 559 < 572 by decide) rfl rfl (Nat.le_of_ble_eq_true rfl) (by omega) (by decide) (by decide) dX12_isActive_14 (adV ?_) axN
  exact w_X12_isActive_17  hd    x1 ((f_X12_checked s0 v).1) (f_X12_checked s0 v).2 hp hQ
def f_X12_isActive_0  (x1 : Int32) (v : gV) : Int32 × gV := if (f_X12_policy x1 v) < 0 then (f_X12_isActive_14  x1 (0 : Int32) v) else (f_X12_isActive_14  x1 (1 : Int32) v)
def p_X12_isActive_0  (x1 : Int32) (v : gV) : Prop := (p_X12_policy x1 v) ∧ ((((f_X12_policy x1 v) < 0) → (p_X12_isActive_14   x1 (0 : Int32) v)) ∧ (¬ ((f_X12_policy x1 v) < 0) → (p_X12_isActive_14   x1 (1 : Int32) v)))
set_option maxHeartbeats 4000000 in
set_option maxRecDepth 100000 in
theorem w_X12_isActive_0 {E : gE} {d : Nat} {Q : gO → gS → Prop}   (hd : 2 ≤ d) (x1 : Int32) (v : gV) (hp : p_X12_isActive_0   x1 v) (hQ : gqIV Q (f_X12_isActive_0  x1 v)) : gG E m_X12_isActive d Q 0 0 (rS v) 0 [(0, .ref (gX E + 559)), (1, .int x1)] [] := by
  refine g_aload_n 0 dX12_isActive_0 rfl ?_
  refine g_aload_n 0 dX12_isActive_1 rfl ?_
  refine g_iload_n 1 dX12_isActive_2 rfl ?_
  obtain ⟨h1, hp⟩ := hp
  refine g_callV (rest := [.ref (gX E + 559)]) s_X12_107_X12 rfl (c_X12_policy (E := E) (d := d - 1)   (by omega) x1 v h1) (by decide : kd 559 = (0, 9)) (show 559 < 572 by decide) rfl rfl (Nat.le_of_ble_eq_true rfl) (by omega) (by decide) (by decide) dX12_isActive_3 (adV ?_) axN
  refine g_if_lt 13 dX12_isActive_6 (by decide) (fun h2 => ?_) (fun h2 => ?_)
  · have hQ := qp (P := gqIV Q) h2 hQ
    have hp := hp.1 h2
    refine g_iconst dX12_isActive_13 (0 : Int32) (by decide) ?_
    exact w_X12_isActive_14  hd    x1 (0 : Int32) v hp hQ
  · have hQ := qn (P := gqIV Q) h2 hQ
    have hp := hp.2 h2
    refine g_iconst dX12_isActive_9 (1 : Int32) (by decide) ?_
    refine g_goto 14 dX12_isActive_10 (by decide) ?_
    exact w_X12_isActive_14  hd    x1 (1 : Int32) v hp hQ
def f_X12_isActive  (x1 : Int32) (v : gV) : Int32 × gV := f_X12_isActive_0 x1 v
def p_X12_isActive  (x1 : Int32) (v : gV) : Prop := p_X12_isActive_0 x1 v
theorem c_X12_isActive {E : gE} {d : Nat}   (hd : 2 ≤ d) (x1 : Int32) (v : gV) (hp : p_X12_isActive x1 v) : CT E m_X12_isActive d 0 0 [.ref (gX E + 559), .int x1] (rS v) (Cq (.inl (some (.int ((f_X12_isActive x1 v).1)))) (f_X12_isActive x1 v).2) := CT.of ok_X12_isActive rfl (Nat.le_of_ble_eq_true rfl) (w_X12_isActive_0  hd x1 v hp ⟨rfl, rfl⟩)
def f_X12_claimCount_10  (s0 : Int32) (v : gV) : Int32 × gV := (s0, v)
def p_X12_claimCount_10  (s0 : Int32) (v : gV) : Prop := True
set_option maxHeartbeats 4000000 in
set_option maxRecDepth 100000 in
theorem w_X12_claimCount_10 {E : gE} {d : Nat} {Q : gO → gS → Prop}   (hd : 1 ≤ d) (s0 : Int32) (v : gV) (hp : p_X12_claimCount_10   s0 v) (hQ : gqIV Q (f_X12_claimCount_10  s0 v)) : gG E m_X12_claimCount d Q 0 0 (rS v) 10 [] [.int s0] := by
  exact g_iret rfl dX12_claimCount_10 hQ
def f_X12_claimCount_0   (v : gV) : Int32 × gV := f_X12_claimCount_10  ((f_X12_plain (v.1 560 (1 : Int32).toNatClampNeg) v).1) (f_X12_plain (v.1 560 (1 : Int32).toNatClampNeg) v).2
def p_X12_claimCount_0   (v : gV) : Prop := (p_X12_plain (v.1 560 (1 : Int32).toNatClampNeg) v) ∧ (p_X12_claimCount_10   ((f_X12_plain (v.1 560 (1 : Int32).toNatClampNeg) v).1) (f_X12_plain (v.1 560 (1 : Int32).toNatClampNeg) v).2)
set_option maxHeartbeats 4000000 in
set_option maxRecDepth 100000 in
theorem w_X12_claimCount_0 {E : gE} {d : Nat} {Q : gO → gS → Prop}   (hd : 1 ≤ d)  (v : gV) (hp : p_X12_claimCount_0    v) (hQ : gqIV Q (f_X12_claimCount_0   v)) : gG E m_X12_claimCount d Q 0 0 (rS v) 0 [(0, .ref (gX E + 559))] [] := by
  refine g_aload_n 0 dX12_claimCount_0 rfl ?_
  refine g_aload_n 0 dX12_claimCount_1 rfl ?_
  refine r_get (.ref (gX E + 560)) f_X12_7_X12 rfl (by decide : kd 559 = (0, 9)) (show 559 < 572 by decide) dX12_claimCount_2 (fun _ => rfl) ?_
  refine g_iconst dX12_claimCount_5 (1 : Int32) (by decide) ?_
  refine g_iald (by decide : kd 560 = (1, 300)) (show 560 < 572 by decide) (show ¬ (_ ∨ _) by decide) dX12_claimCount_6 ?_
  obtain ⟨h1, hp⟩ := hp
  refine g_callV (rest := []) s_X12_210_X12 rfl (c_X12_plain (E := E) (d := d - 1)   (by omega) (v.1 560 (1 : Int32).toNatClampNeg) v h1) (by decide : kd 559 = (0, 9)) (show 559 < 572 by decide) rfl rfl (Nat.le_of_ble_eq_true rfl) (by omega) (by decide) (by decide) dX12_claimCount_7 (adV ?_) axN
  refine g_lv (lv' := []) [] rfl ?_
  exact w_X12_claimCount_10  hd    ((f_X12_plain (v.1 560 (1 : Int32).toNatClampNeg) v).1) (f_X12_plain (v.1 560 (1 : Int32).toNatClampNeg) v).2 hp hQ
def f_X12_claimCount   (v : gV) : Int32 × gV := f_X12_claimCount_0  v
def p_X12_claimCount   (v : gV) : Prop := p_X12_claimCount_0  v
theorem c_X12_claimCount {E : gE} {d : Nat}   (hd : 1 ≤ d)  (v : gV) (hp : p_X12_claimCount  v) : CT E m_X12_claimCount d 0 0 [.ref (gX E + 559)] (rS v) (Cq (.inl (some (.int ((f_X12_claimCount  v).1)))) (f_X12_claimCount  v).2) := CT.of ok_X12_claimCount rfl (Nat.le_of_ble_eq_true rfl) (w_X12_claimCount_0  hd  v hp ⟨rfl, rfl⟩)
def f_X12_claimAt_30  (s0 : Int32) (v : gV) : Int32 × gV := (s0, v)
def p_X12_claimAt_30  (s0 : Int32) (v : gV) : Prop := True
set_option maxHeartbeats 4000000 in
set_option maxRecDepth 100000 in
theorem w_X12_claimAt_30 {E : gE} {d : Nat} {Q : gO → gS → Prop}   (hd : 1 ≤ d) (s0 : Int32) (v : gV) (hp : p_X12_claimAt_30   s0 v) (hQ : gqIV Q (f_X12_claimAt_30  s0 v)) : gG E m_X12_claimAt d Q 0 0 (rS v) 30 [] [.int s0] := by
  exact g_iret rfl dX12_claimAt_30 hQ
def f_X12_claimAt_17  (x1 : Int32) (s0 : Int32) (v : gV) : Int32 × gV := if s0 ≤ 0 then (f_X12_claimAt_30  (f_X12_c x1 (0 : Int32) v) v) else (f_X12_claimAt_30  (0 : Int32) v)
def p_X12_claimAt_17  (x1 : Int32) (s0 : Int32) (v : gV) : Prop := ((s0 ≤ 0) → ((p_X12_c x1 (0 : Int32) v) ∧ (p_X12_claimAt_30   (f_X12_c x1 (0 : Int32) v) v))) ∧ (¬ (s0 ≤ 0) → (p_X12_claimAt_30   (0 : Int32) v))
set_option maxHeartbeats 4000000 in
set_option maxRecDepth 100000 in
theorem w_X12_claimAt_17 {E : gE} {d : Nat} {Q : gO → gS → Prop}   (hd : 1 ≤ d) (x1 : Int32) (s0 : Int32) (v : gV) (hp : p_X12_claimAt_17   x1 s0 v) (hQ : gqIV Q (f_X12_claimAt_17  x1 s0 v)) : gG E m_X12_claimAt d Q 0 0 (rS v) 17 [(0, .ref (gX E + 559)), (1, .int x1)] [.int s0] := by
  refine g_if_le 24 dX12_claimAt_17 (by decide) (fun h3 => ?_) (fun h3 => ?_)
  · have hQ := qp (P := gqIV Q) h3 hQ
    have hp := hp.1 h3
    refine g_aload_n 0 dX12_claimAt_24 rfl ?_
    refine g_iload_n 1 dX12_claimAt_25 rfl ?_
    refine g_iconst dX12_claimAt_26 (0 : Int32) (by decide) ?_
    obtain ⟨h4, hp⟩ := hp
    refine g_callV (rest := []) s_X12_104_X12 rfl (c_X12_c (E := E) (d := d - 1)   (by omega) x1 (0 : Int32) v h4) (by decide : kd 559 = (0, 9)) (show 559 < 572 by decide) rfl rfl (Nat.le_of_ble_eq_true rfl) (by omega) (by decide) (by decide) dX12_claimAt_27 (adV ?_) axN
    refine g_lv (lv' := []) [] rfl ?_
    exact w_X12_claimAt_30  hd    (f_X12_c x1 (0 : Int32) v) v hp hQ
  · have hQ := qn (P := gqIV Q) h3 hQ
    have hp := hp.2 h3
    refine g_iconst dX12_claimAt_20 (0 : Int32) (by decide) ?_
    refine g_goto 30 dX12_claimAt_21 (by decide) ?_
    refine g_lv (lv' := []) [] rfl ?_
    exact w_X12_claimAt_30  hd    (0 : Int32) v hp hQ
def f_X12_claimAt_0  (x1 : Int32) (v : gV) : Int32 × gV := f_X12_claimAt_17  x1 ((f_X12_checked (f_X12_in x1 (0 : Int32) ((v.1 560 (1 : Int32).toNatClampNeg) - (1 : Int32)) v) v).1) (f_X12_checked (f_X12_in x1 (0 : Int32) ((v.1 560 (1 : Int32).toNatClampNeg) - (1 : Int32)) v) v).2
def p_X12_claimAt_0  (x1 : Int32) (v : gV) : Prop := (p_X12_in x1 (0 : Int32) ((v.1 560 (1 : Int32).toNatClampNeg) - (1 : Int32)) v) ∧ ((p_X12_checked (f_X12_in x1 (0 : Int32) ((v.1 560 (1 : Int32).toNatClampNeg) - (1 : Int32)) v) v) ∧ (p_X12_claimAt_17   x1 ((f_X12_checked (f_X12_in x1 (0 : Int32) ((v.1 560 (1 : Int32).toNatClampNeg) - (1 : Int32)) v) v).1) (f_X12_checked (f_X12_in x1 (0 : Int32) ((v.1 560 (1 : Int32).toNatClampNeg) - (1 : Int32)) v) v).2))
set_option maxHeartbeats 4000000 in
set_option maxRecDepth 100000 in
theorem w_X12_claimAt_0 {E : gE} {d : Nat} {Q : gO → gS → Prop}   (hd : 1 ≤ d) (x1 : Int32) (v : gV) (hp : p_X12_claimAt_0   x1 v) (hQ : gqIV Q (f_X12_claimAt_0  x1 v)) : gG E m_X12_claimAt d Q 0 0 (rS v) 0 [(0, .ref (gX E + 559)), (1, .int x1)] [] := by
  refine g_aload_n 0 dX12_claimAt_0 rfl ?_
  refine g_iload_n 1 dX12_claimAt_1 rfl ?_
  refine g_iconst dX12_claimAt_2 (0 : Int32) (by decide) ?_
  refine g_aload_n 0 dX12_claimAt_3 rfl ?_
  refine r_get (.ref (gX E + 560)) f_X12_7_X12 rfl (by decide : kd 559 = (0, 9)) (show 559 < 572 by decide) dX12_claimAt_4 (fun _ => rfl) ?_
  refine g_iconst dX12_claimAt_7 (1 : Int32) (by decide) ?_
  refine g_iald (by decide : kd 560 = (1, 300)) (show 560 < 572 by decide) (show ¬ (_ ∨ _) by decide) dX12_claimAt_8 ?_
  refine g_iconst dX12_claimAt_9 (1 : Int32) (by decide) ?_
  refine g_isub dX12_claimAt_10 ?_
  obtain ⟨h1, hp⟩ := hp
  refine g_callS (rest := [.ref (gX E + 559)]) s_X12_83 rfl (c_X12_in (E := E) (d := d - 1)   (by omega) x1 (0 : Int32) ((v.1 560 (1 : Int32).toNatClampNeg) - (1 : Int32)) v h1) rfl rfl (Nat.le_of_ble_eq_true rfl) (by omega) (by decide) (by decide) dX12_claimAt_11 (adV ?_) axN
  obtain ⟨h2, hp⟩ := hp
  refine g_callV (rest := []) s_X12_213_X12 rfl (c_X12_checked (E := E) (d := d - 1)   (by omega) (f_X12_in x1 (0 : Int32) ((v.1 560 (1 : Int32).toNatClampNeg) - (1 : Int32)) v) v h2) (by decide : kd 559 = (0, 9)) (show 559 < 572 by decide) rfl rfl (Nat.le_of_ble_eq_true rfl) (by omega) (by decide) (by decide) dX12_claimAt_14 (adV ?_) axN
  exact w_X12_claimAt_17  hd    x1 ((f_X12_checked (f_X12_in x1 (0 : Int32) ((v.1 560 (1 : Int32).toNatClampNeg) - (1 : Int32)) v) v).1) (f_X12_checked (f_X12_in x1 (0 : Int32) ((v.1 560 (1 : Int32).toNatClampNeg) - (1 : Int32)) v) v).2 hp hQ
def f_X12_claimAt  (x1 : Int32) (v : gV) : Int32 × gV := f_X12_claimAt_0 x1 v
def p_X12_claimAt  (x1 : Int32) (v : gV) : Prop := p_X12_claimAt_0 x1 v
theorem c_X12_claimAt {E : gE} {d : Nat}   (hd : 1 ≤ d) (x1 : Int32) (v : gV) (hp : p_X12_claimAt x1 v) : CT E m_X12_claimAt d 0 0 [.ref (gX E + 559), .int x1] (rS v) (Cq (.inl (some (.int ((f_X12_claimAt x1 v).1)))) (f_X12_claimAt x1 v).2) := CT.of ok_X12_claimAt rfl (Nat.le_of_ble_eq_true rfl) (w_X12_claimAt_0  hd x1 v hp ⟨rfl, rfl⟩)
def f_X12_ofClaim_34  (s0 : Int32) (v : gV) : Int32 × gV := (s0, v)
def p_X12_ofClaim_34  (s0 : Int32) (v : gV) : Prop := True
set_option maxHeartbeats 4000000 in
set_option maxRecDepth 100000 in
theorem w_X12_ofClaim_34 {E : gE} {d : Nat} {Q : gO → gS → Prop}   (hd : 2 ≤ d) (s0 : Int32) (v : gV) (hp : p_X12_ofClaim_34   s0 v) (hQ : gqIV Q (f_X12_ofClaim_34  s0 v)) : gG E m_X12_ofClaim d Q 0 0 (rS v) 34 [] [.int s0] := by
  exact g_iret rfl dX12_ofClaim_34 hQ
def f_X12_ofClaim_17  (x1 : Int32) (x2 : Int32) (s0 : Int32) (v : gV) : Int32 × gV := if s0 ≤ 0 then (f_X12_ofClaim_34  (f_X12_c (f_X12_claim x1 v) x2 v) v) else (f_X12_ofClaim_34  (0 : Int32) v)
def p_X12_ofClaim_17  (x1 : Int32) (x2 : Int32) (s0 : Int32) (v : gV) : Prop := ((s0 ≤ 0) → ((p_X12_claim x1 v) ∧ ((p_X12_c (f_X12_claim x1 v) x2 v) ∧ (p_X12_ofClaim_34   (f_X12_c (f_X12_claim x1 v) x2 v) v)))) ∧ (¬ (s0 ≤ 0) → (p_X12_ofClaim_34   (0 : Int32) v))
set_option maxHeartbeats 4000000 in
set_option maxRecDepth 100000 in
theorem w_X12_ofClaim_17 {E : gE} {d : Nat} {Q : gO → gS → Prop}   (hd : 2 ≤ d) (x1 : Int32) (x2 : Int32) (s0 : Int32) (v : gV) (hp : p_X12_ofClaim_17   x1 x2 s0 v) (hQ : gqIV Q (f_X12_ofClaim_17  x1 x2 s0 v)) : gG E m_X12_ofClaim d Q 0 0 (rS v) 17 [(0, .ref (gX E + 559)), (1, .int x1), (2, .int x2)] [.int s0] := by
  refine g_if_le 24 dX12_ofClaim_17 (by decide) (fun h4 => ?_) (fun h4 => ?_)
  · have hQ := qp (P := gqIV Q) h4 hQ
    have hp := hp.1 h4
    refine g_aload_n 0 dX12_ofClaim_24 rfl ?_
    refine g_aload_n 0 dX12_ofClaim_25 rfl ?_
    refine g_iload_n 1 dX12_ofClaim_26 rfl ?_
    obtain ⟨h5, hp⟩ := hp
    refine g_callV (rest := [.ref (gX E + 559)]) s_X12_167_X12 rfl (c_X12_claim (E := E) (d := d - 1)   (by omega) x1 v h5) (by decide : kd 559 = (0, 9)) (show 559 < 572 by decide) rfl rfl (Nat.le_of_ble_eq_true rfl) (by omega) (by decide) (by decide) dX12_ofClaim_27 (adV ?_) axN
    refine g_iload_n 2 dX12_ofClaim_30 rfl ?_
    obtain ⟨h6, hp⟩ := hp
    refine g_callV (rest := []) s_X12_104_X12 rfl (c_X12_c (E := E) (d := d - 1)   (by omega) (f_X12_claim x1 v) x2 v h6) (by decide : kd 559 = (0, 9)) (show 559 < 572 by decide) rfl rfl (Nat.le_of_ble_eq_true rfl) (by omega) (by decide) (by decide) dX12_ofClaim_31 (adV ?_) axN
    refine g_lv (lv' := []) [] rfl ?_
    exact w_X12_ofClaim_34  hd    (f_X12_c (f_X12_claim x1 v) x2 v) v hp hQ
  · have hQ := qn (P := gqIV Q) h4 hQ
    have hp := hp.2 h4
    refine g_iconst dX12_ofClaim_20 (0 : Int32) (by decide) ?_
    refine g_goto 34 dX12_ofClaim_21 (by decide) ?_
    refine g_lv (lv' := []) [] rfl ?_
    exact w_X12_ofClaim_34  hd    (0 : Int32) v hp hQ
def f_X12_ofClaim_14  (x1 : Int32) (x2 : Int32) (s0 : Int32) (v : gV) : Int32 × gV := f_X12_ofClaim_17  x1 x2 ((f_X12_checked s0 v).1) (f_X12_checked s0 v).2
def p_X12_ofClaim_14  (x1 : Int32) (x2 : Int32) (s0 : Int32) (v : gV) : Prop := (p_X12_checked s0 v) ∧ (p_X12_ofClaim_17   x1 x2 ((f_X12_checked s0 v).1) (f_X12_checked s0 v).2)
set_option maxHeartbeats 4000000 in
set_option maxRecDepth 100000 in
theorem w_X12_ofClaim_14 {E : gE} {d : Nat} {Q : gO → gS → Prop}   (hd : 2 ≤ d) (x1 : Int32) (x2 : Int32) (s0 : Int32) (v : gV) (hp : p_X12_ofClaim_14   x1 x2 s0 v) (hQ : gqIV Q (f_X12_ofClaim_14  x1 x2 s0 v)) : gG E m_X12_ofClaim d Q 0 0 (rS v) 14 [(0, .ref (gX E + 559)), (1, .int x1), (2, .int x2)] [.int s0, .ref (gX E + 559)] := by
  obtain ⟨h3, hp⟩ := hp
  refine g_callV (rest := []) s_X12_213_X12 rfl (c_X12_checked (E := E) (d := d - 1)   (by omega) s0 v h3) (by decide : kd 559 = (0, 9)) (show 559 < 572 by decide) rfl rfl (Nat.le_of_ble_eq_true rfl) (by omega) (by decide) (by decide) dX12_ofClaim_14 (adV ?_) axN
  exact w_X12_ofClaim_17  hd    x1 x2 ((f_X12_checked s0 v).1) (f_X12_checked s0 v).2 hp hQ
def f_X12_ofClaim_0  (x1 : Int32) (x2 : Int32) (v : gV) : Int32 × gV := if (f_X12_claim x1 v) < 0 then (f_X12_ofClaim_14  x1 x2 (0 : Int32) v) else (f_X12_ofClaim_14  x1 x2 (1 : Int32) v)
def p_X12_ofClaim_0  (x1 : Int32) (x2 : Int32) (v : gV) : Prop := (p_X12_claim x1 v) ∧ ((((f_X12_claim x1 v) < 0) → (p_X12_ofClaim_14   x1 x2 (0 : Int32) v)) ∧ (¬ ((f_X12_claim x1 v) < 0) → (p_X12_ofClaim_14   x1 x2 (1 : Int32) v)))
set_option maxHeartbeats 4000000 in
set_option maxRecDepth 100000 in
theorem w_X12_ofClaim_0 {E : gE} {d : Nat} {Q : gO → gS → Prop}   (hd : 2 ≤ d) (x1 : Int32) (x2 : Int32) (v : gV) (hp : p_X12_ofClaim_0   x1 x2 v) (hQ : gqIV Q (f_X12_ofClaim_0  x1 x2 v)) : gG E m_X12_ofClaim d Q 0 0 (rS v) 0 [(0, .ref (gX E + 559)), (1, .int x1), (2, .int x2)] [] := by
  refine g_aload_n 0 dX12_ofClaim_0 rfl ?_
  refine g_aload_n 0 dX12_ofClaim_1 rfl ?_
  refine g_iload_n 1 dX12_ofClaim_2 rfl ?_
  obtain ⟨h1, hp⟩ := hp
  refine g_callV (rest := [.ref (gX E + 559)]) s_X12_167_X12 rfl (c_X12_claim (E := E) (d := d - 1)   (by omega) x1 v h1) (by decide : kd 559 = (0, 9)) (show 559 < 572 by decide) rfl rfl (Nat.le_of_ble_eq_true rfl) (by omega) (by decide) (by decide) dX12_ofClaim_3 (adV ?_) axN
  refine g_if_lt 13 dX12_ofClaim_6 (by decide) (fun h2 => ?_) (fun h2 => ?_)
  · have hQ := qp (P := gqIV Q) h2 hQ
    have hp := hp.1 h2
    refine g_iconst dX12_ofClaim_13 (0 : Int32) (by decide) ?_
    exact w_X12_ofClaim_14  hd    x1 x2 (0 : Int32) v hp hQ
  · have hQ := qn (P := gqIV Q) h2 hQ
    have hp := hp.2 h2
    refine g_iconst dX12_ofClaim_9 (1 : Int32) (by decide) ?_
    refine g_goto 14 dX12_ofClaim_10 (by decide) ?_
    exact w_X12_ofClaim_14  hd    x1 x2 (1 : Int32) v hp hQ
def f_X12_ofClaim  (x1 : Int32) (x2 : Int32) (v : gV) : Int32 × gV := f_X12_ofClaim_0 x1 x2 v
def p_X12_ofClaim  (x1 : Int32) (x2 : Int32) (v : gV) : Prop := p_X12_ofClaim_0 x1 x2 v
theorem c_X12_ofClaim {E : gE} {d : Nat}   (hd : 2 ≤ d) (x1 : Int32) (x2 : Int32) (v : gV) (hp : p_X12_ofClaim x1 x2 v) : CT E m_X12_ofClaim d 0 0 [.ref (gX E + 559), .int x1, .int x2] (rS v) (Cq (.inl (some (.int ((f_X12_ofClaim x1 x2 v).1)))) (f_X12_ofClaim x1 x2 v).2) := CT.of ok_X12_ofClaim rfl (Nat.le_of_ble_eq_true rfl) (w_X12_ofClaim_0  hd x1 x2 v hp ⟨rfl, rfl⟩)
def f_X12_policyOf_6  (s0 : Int32) (v : gV) : Int32 × gV := (s0, v)
def p_X12_policyOf_6  (s0 : Int32) (v : gV) : Prop := True
set_option maxHeartbeats 4000000 in
set_option maxRecDepth 100000 in
theorem w_X12_policyOf_6 {E : gE} {d : Nat} {Q : gO → gS → Prop}   (hd : 3 ≤ d) (s0 : Int32) (v : gV) (hp : p_X12_policyOf_6   s0 v) (hQ : gqIV Q (f_X12_policyOf_6  s0 v)) : gG E m_X12_policyOf d Q 0 0 (rS v) 6 [] [.int s0] := by
  exact g_iret rfl dX12_policyOf_6 hQ
def f_X12_policyOf_0  (x1 : Int32) (v : gV) : Int32 × gV := f_X12_policyOf_6  ((f_X12_ofClaim x1 (1 : Int32) v).1) (f_X12_ofClaim x1 (1 : Int32) v).2
def p_X12_policyOf_0  (x1 : Int32) (v : gV) : Prop := (p_X12_ofClaim x1 (1 : Int32) v) ∧ (p_X12_policyOf_6   ((f_X12_ofClaim x1 (1 : Int32) v).1) (f_X12_ofClaim x1 (1 : Int32) v).2)
set_option maxHeartbeats 4000000 in
set_option maxRecDepth 100000 in
theorem w_X12_policyOf_0 {E : gE} {d : Nat} {Q : gO → gS → Prop}   (hd : 3 ≤ d) (x1 : Int32) (v : gV) (hp : p_X12_policyOf_0   x1 v) (hQ : gqIV Q (f_X12_policyOf_0  x1 v)) : gG E m_X12_policyOf d Q 0 0 (rS v) 0 [(0, .ref (gX E + 559)), (1, .int x1)] [] := by
  refine g_aload_n 0 dX12_policyOf_0 rfl ?_
  refine g_iload_n 1 dX12_policyOf_1 rfl ?_
  refine g_iconst dX12_policyOf_2 (1 : Int32) (by decide) ?_
  obtain ⟨h1, hp⟩ := hp
  refine g_callV (rest := []) s_X12_220_X12 rfl (c_X12_ofClaim (E := E) (d := d - 1)   (by omega) x1 (1 : Int32) v h1) (by decide : kd 559 = (0, 9)) (show 559 < 572 by decide) rfl rfl (Nat.le_of_ble_eq_true rfl) (by omega) (by decide) (by decide) dX12_policyOf_3 (adV ?_) axN
  refine g_lv (lv' := []) [] rfl ?_
  exact w_X12_policyOf_6  hd    ((f_X12_ofClaim x1 (1 : Int32) v).1) (f_X12_ofClaim x1 (1 : Int32) v).2 hp hQ
def f_X12_policyOf  (x1 : Int32) (v : gV) : Int32 × gV := f_X12_policyOf_0 x1 v
def p_X12_policyOf  (x1 : Int32) (v : gV) : Prop := p_X12_policyOf_0 x1 v
theorem c_X12_policyOf {E : gE} {d : Nat}   (hd : 3 ≤ d) (x1 : Int32) (v : gV) (hp : p_X12_policyOf x1 v) : CT E m_X12_policyOf d 0 0 [.ref (gX E + 559), .int x1] (rS v) (Cq (.inl (some (.int ((f_X12_policyOf x1 v).1)))) (f_X12_policyOf x1 v).2) := CT.of ok_X12_policyOf rfl (Nat.le_of_ble_eq_true rfl) (w_X12_policyOf_0  hd x1 v hp ⟨rfl, rfl⟩)
def f_X12_causeOf_21  (s0 : Int32) (v : gV) : Int32 × gV := (s0, v)
def p_X12_causeOf_21  (s0 : Int32) (v : gV) : Prop := (narrow .char (.int s0) = .int s0) ∧ (True)
set_option maxHeartbeats 4000000 in
set_option maxRecDepth 100000 in
theorem w_X12_causeOf_21 {E : gE} {d : Nat} {Q : gO → gS → Prop}   (hd : 3 ≤ d) (s0 : Int32) (v : gV) (hp : p_X12_causeOf_21   s0 v) (hQ : gqIV Q (f_X12_causeOf_21  s0 v)) : gG E m_X12_causeOf d Q 0 0 (rS v) 21 [] [.int s0] := by
  obtain ⟨h3, hp⟩ := hp
  exact g_zret rfl h3 dX12_causeOf_21 hQ
def f_X12_causeOf_6  (s0 : Int32) (v : gV) : Int32 × gV := if (v.1 559 6) ≤ 0 then (f_X12_causeOf_21  ((s0.toUInt32 % 65536).toInt32) v) else (f_X12_causeOf_21  (32 : Int32) v)
def p_X12_causeOf_6  (s0 : Int32) (v : gV) : Prop := (((v.1 559 6) ≤ 0) → (p_X12_causeOf_21   ((s0.toUInt32 % 65536).toInt32) v)) ∧ (¬ ((v.1 559 6) ≤ 0) → (p_X12_causeOf_21   (32 : Int32) v))
set_option maxHeartbeats 4000000 in
set_option maxRecDepth 100000 in
theorem w_X12_causeOf_6 {E : gE} {d : Nat} {Q : gO → gS → Prop}   (hd : 3 ≤ d) (s0 : Int32) (v : gV) (hp : p_X12_causeOf_6   s0 v) (hQ : gqIV Q (f_X12_causeOf_6  s0 v)) : gG E m_X12_causeOf d Q 0 0 (rS v) 6 [(0, .ref (gX E + 559))] [.int s0] := by
  refine g_istore_n [(2, .int s0), (0, .ref (gX E + 559))] dX12_causeOf_6 rfl (by decide) rfl ?_
  refine g_aload_n 1 dX12_causeOf_7 rfl ?_
  refine r_get (.int (v.1 559 6)) f_X12_28_X12 rfl (by decide : kd 559 = (0, 9)) (show 559 < 572 by decide) dX12_causeOf_8 (fun _ => rfl) ?_
  refine g_if_le 19 dX12_causeOf_11 (by decide) (fun h2 => ?_) (fun h2 => ?_)
  · have hQ := qp (P := gqIV Q) h2 hQ
    have hp := hp.1 h2
    refine g_iload_n 0 dX12_causeOf_19 rfl ?_
    refine g_i2c dX12_causeOf_20 ?_
    refine g_lv (lv' := []) [] rfl ?_
    exact w_X12_causeOf_21  hd    ((s0.toUInt32 % 65536).toInt32) v hp hQ
  · have hQ := qn (P := gqIV Q) h2 hQ
    have hp := hp.2 h2
    refine g_bipush dX12_causeOf_14 (32 : Int32) (by decide) ?_
    refine g_goto 21 dX12_causeOf_16 (by decide) ?_
    refine g_lv (lv' := []) [] rfl ?_
    exact w_X12_causeOf_21  hd    (32 : Int32) v hp hQ
def f_X12_causeOf_0  (x1 : Int32) (v : gV) : Int32 × gV := f_X12_causeOf_6  ((f_X12_ofClaim x1 (2 : Int32) v).1) (f_X12_ofClaim x1 (2 : Int32) v).2
def p_X12_causeOf_0  (x1 : Int32) (v : gV) : Prop := (p_X12_ofClaim x1 (2 : Int32) v) ∧ (p_X12_causeOf_6   ((f_X12_ofClaim x1 (2 : Int32) v).1) (f_X12_ofClaim x1 (2 : Int32) v).2)
set_option maxHeartbeats 4000000 in
set_option maxRecDepth 100000 in
theorem w_X12_causeOf_0 {E : gE} {d : Nat} {Q : gO → gS → Prop}   (hd : 3 ≤ d) (x1 : Int32) (v : gV) (hp : p_X12_causeOf_0   x1 v) (hQ : gqIV Q (f_X12_causeOf_0  x1 v)) : gG E m_X12_causeOf d Q 0 0 (rS v) 0 [(0, .ref (gX E + 559)), (1, .int x1)] [] := by
  refine g_aload_n 0 dX12_causeOf_0 rfl ?_
  refine g_iload_n 1 dX12_causeOf_1 rfl ?_
  refine g_iconst dX12_causeOf_2 (2 : Int32) (by decide) ?_
  obtain ⟨h1, hp⟩ := hp
  refine g_callV (rest := []) s_X12_220_X12 rfl (c_X12_ofClaim (E := E) (d := d - 1)   (by omega) x1 (2 : Int32) v h1) (by decide : kd 559 = (0, 9)) (show 559 < 572 by decide) rfl rfl (Nat.le_of_ble_eq_true rfl) (by omega) (by decide) (by decide) dX12_causeOf_3 (adV ?_) axN
  refine g_lv (lv' := [(0, .ref (gX E + 559))]) [0] rfl ?_
  exact w_X12_causeOf_6  hd    ((f_X12_ofClaim x1 (2 : Int32) v).1) (f_X12_ofClaim x1 (2 : Int32) v).2 hp hQ
def f_X12_causeOf  (x1 : Int32) (v : gV) : Int32 × gV := f_X12_causeOf_0 x1 v
def p_X12_causeOf  (x1 : Int32) (v : gV) : Prop := p_X12_causeOf_0 x1 v
theorem c_X12_causeOf {E : gE} {d : Nat}   (hd : 3 ≤ d) (x1 : Int32) (v : gV) (hp : p_X12_causeOf x1 v) : CT E m_X12_causeOf d 0 0 [.ref (gX E + 559), .int x1] (rS v) (Cq (.inl (some (.int ((f_X12_causeOf x1 v).1)))) (f_X12_causeOf x1 v).2) := CT.of ok_X12_causeOf rfl (Nat.le_of_ble_eq_true rfl) (w_X12_causeOf_0  hd x1 v hp ⟨rfl, rfl⟩)
def f_X12_amountOf_6  (s0 : Int32) (v : gV) : Int32 × gV := (s0, v)
def p_X12_amountOf_6  (s0 : Int32) (v : gV) : Prop := True
set_option maxHeartbeats 4000000 in
set_option maxRecDepth 100000 in
theorem w_X12_amountOf_6 {E : gE} {d : Nat} {Q : gO → gS → Prop}   (hd : 3 ≤ d) (s0 : Int32) (v : gV) (hp : p_X12_amountOf_6   s0 v) (hQ : gqIV Q (f_X12_amountOf_6  s0 v)) : gG E m_X12_amountOf d Q 0 0 (rS v) 6 [] [.int s0] := by
  exact g_iret rfl dX12_amountOf_6 hQ
def f_X12_amountOf_0  (x1 : Int32) (v : gV) : Int32 × gV := f_X12_amountOf_6  ((f_X12_ofClaim x1 (3 : Int32) v).1) (f_X12_ofClaim x1 (3 : Int32) v).2
def p_X12_amountOf_0  (x1 : Int32) (v : gV) : Prop := (p_X12_ofClaim x1 (3 : Int32) v) ∧ (p_X12_amountOf_6   ((f_X12_ofClaim x1 (3 : Int32) v).1) (f_X12_ofClaim x1 (3 : Int32) v).2)
set_option maxHeartbeats 4000000 in
set_option maxRecDepth 100000 in
theorem w_X12_amountOf_0 {E : gE} {d : Nat} {Q : gO → gS → Prop}   (hd : 3 ≤ d) (x1 : Int32) (v : gV) (hp : p_X12_amountOf_0   x1 v) (hQ : gqIV Q (f_X12_amountOf_0  x1 v)) : gG E m_X12_amountOf d Q 0 0 (rS v) 0 [(0, .ref (gX E + 559)), (1, .int x1)] [] := by
  refine g_aload_n 0 dX12_amountOf_0 rfl ?_
  refine g_iload_n 1 dX12_amountOf_1 rfl ?_
  refine g_iconst dX12_amountOf_2 (3 : Int32) (by decide) ?_
  obtain ⟨h1, hp⟩ := hp
  refine g_callV (rest := []) s_X12_220_X12 rfl (c_X12_ofClaim (E := E) (d := d - 1)   (by omega) x1 (3 : Int32) v h1) (by decide : kd 559 = (0, 9)) (show 559 < 572 by decide) rfl rfl (Nat.le_of_ble_eq_true rfl) (by omega) (by decide) (by decide) dX12_amountOf_3 (adV ?_) axN
  refine g_lv (lv' := []) [] rfl ?_
  exact w_X12_amountOf_6  hd    ((f_X12_ofClaim x1 (3 : Int32) v).1) (f_X12_ofClaim x1 (3 : Int32) v).2 hp hQ
def f_X12_amountOf  (x1 : Int32) (v : gV) : Int32 × gV := f_X12_amountOf_0 x1 v
def p_X12_amountOf  (x1 : Int32) (v : gV) : Prop := p_X12_amountOf_0 x1 v
theorem c_X12_amountOf {E : gE} {d : Nat}   (hd : 3 ≤ d) (x1 : Int32) (v : gV) (hp : p_X12_amountOf x1 v) : CT E m_X12_amountOf d 0 0 [.ref (gX E + 559), .int x1] (rS v) (Cq (.inl (some (.int ((f_X12_amountOf x1 v).1)))) (f_X12_amountOf x1 v).2) := CT.of ok_X12_amountOf rfl (Nat.le_of_ble_eq_true rfl) (w_X12_amountOf_0  hd x1 v hp ⟨rfl, rfl⟩)
def f_X12_paidOf_6  (s0 : Int32) (v : gV) : Int32 × gV := (s0, v)
def p_X12_paidOf_6  (s0 : Int32) (v : gV) : Prop := True
set_option maxHeartbeats 4000000 in
set_option maxRecDepth 100000 in
theorem w_X12_paidOf_6 {E : gE} {d : Nat} {Q : gO → gS → Prop}   (hd : 3 ≤ d) (s0 : Int32) (v : gV) (hp : p_X12_paidOf_6   s0 v) (hQ : gqIV Q (f_X12_paidOf_6  s0 v)) : gG E m_X12_paidOf d Q 0 0 (rS v) 6 [] [.int s0] := by
  exact g_iret rfl dX12_paidOf_6 hQ
def f_X12_paidOf_0  (x1 : Int32) (v : gV) : Int32 × gV := f_X12_paidOf_6  ((f_X12_ofClaim x1 (4 : Int32) v).1) (f_X12_ofClaim x1 (4 : Int32) v).2
def p_X12_paidOf_0  (x1 : Int32) (v : gV) : Prop := (p_X12_ofClaim x1 (4 : Int32) v) ∧ (p_X12_paidOf_6   ((f_X12_ofClaim x1 (4 : Int32) v).1) (f_X12_ofClaim x1 (4 : Int32) v).2)
set_option maxHeartbeats 4000000 in
set_option maxRecDepth 100000 in
theorem w_X12_paidOf_0 {E : gE} {d : Nat} {Q : gO → gS → Prop}   (hd : 3 ≤ d) (x1 : Int32) (v : gV) (hp : p_X12_paidOf_0   x1 v) (hQ : gqIV Q (f_X12_paidOf_0  x1 v)) : gG E m_X12_paidOf d Q 0 0 (rS v) 0 [(0, .ref (gX E + 559)), (1, .int x1)] [] := by
  refine g_aload_n 0 dX12_paidOf_0 rfl ?_
  refine g_iload_n 1 dX12_paidOf_1 rfl ?_
  refine g_iconst dX12_paidOf_2 (4 : Int32) (by decide) ?_
  obtain ⟨h1, hp⟩ := hp
  refine g_callV (rest := []) s_X12_220_X12 rfl (c_X12_ofClaim (E := E) (d := d - 1)   (by omega) x1 (4 : Int32) v h1) (by decide : kd 559 = (0, 9)) (show 559 < 572 by decide) rfl rfl (Nat.le_of_ble_eq_true rfl) (by omega) (by decide) (by decide) dX12_paidOf_3 (adV ?_) axN
  refine g_lv (lv' := []) [] rfl ?_
  exact w_X12_paidOf_6  hd    ((f_X12_ofClaim x1 (4 : Int32) v).1) (f_X12_ofClaim x1 (4 : Int32) v).2 hp hQ
def f_X12_paidOf  (x1 : Int32) (v : gV) : Int32 × gV := f_X12_paidOf_0 x1 v
def p_X12_paidOf  (x1 : Int32) (v : gV) : Prop := p_X12_paidOf_0 x1 v
theorem c_X12_paidOf {E : gE} {d : Nat}   (hd : 3 ≤ d) (x1 : Int32) (v : gV) (hp : p_X12_paidOf x1 v) : CT E m_X12_paidOf d 0 0 [.ref (gX E + 559), .int x1] (rS v) (Cq (.inl (some (.int ((f_X12_paidOf x1 v).1)))) (f_X12_paidOf x1 v).2) := CT.of ok_X12_paidOf rfl (Nat.le_of_ble_eq_true rfl) (w_X12_paidOf_0  hd x1 v hp ⟨rfl, rfl⟩)
def f_X12_borneBy_53  (s0 : Int32) (v : gV) : Int32 × gV := (s0, v)
def p_X12_borneBy_53  (s0 : Int32) (v : gV) : Prop := True
set_option maxHeartbeats 4000000 in
set_option maxRecDepth 100000 in
theorem w_X12_borneBy_53 {E : gE} {d : Nat} {Q : gO → gS → Prop}   (hd : 2 ≤ d) (s0 : Int32) (v : gV) (hp : p_X12_borneBy_53   s0 v) (hQ : gqIV Q (f_X12_borneBy_53  s0 v)) : gG E m_X12_borneBy d Q 0 0 (rS v) 53 [] [.int s0] := by
  exact g_iret rfl dX12_borneBy_53 hQ
def f_X12_borneBy_29  (x1 : Int32) (x2 : Int32) (v : gV) : Int32 × gV := if (v.1 559 6) ≤ 0 then (f_X12_borneBy_53  (f_X12_c (f_X12_claim x1 v) ((6 : Int32) + x2) v) v) else (f_X12_borneBy_53  (0 : Int32) v)
def p_X12_borneBy_29  (x1 : Int32) (x2 : Int32) (v : gV) : Prop := (((v.1 559 6) ≤ 0) → ((p_X12_claim x1 v) ∧ ((p_X12_c (f_X12_claim x1 v) ((6 : Int32) + x2) v) ∧ (p_X12_borneBy_53   (f_X12_c (f_X12_claim x1 v) ((6 : Int32) + x2) v) v)))) ∧ (¬ ((v.1 559 6) ≤ 0) → (p_X12_borneBy_53   (0 : Int32) v))
set_option maxHeartbeats 4000000 in
set_option maxRecDepth 100000 in
theorem w_X12_borneBy_29 {E : gE} {d : Nat} {Q : gO → gS → Prop}   (hd : 2 ≤ d) (x1 : Int32) (x2 : Int32) (v : gV) (hp : p_X12_borneBy_29   x1 x2 v) (hQ : gqIV Q (f_X12_borneBy_29  x1 x2 v)) : gG E m_X12_borneBy d Q 0 0 (rS v) 29 [(0, .ref (gX E + 559)), (1, .int x1), (2, .int x2)] [] := by
  refine g_aload_n 0 dX12_borneBy_29 rfl ?_
  refine r_get (.int (v.1 559 6)) f_X12_28_X12 rfl (by decide : kd 559 = (0, 9)) (show 559 < 572 by decide) dX12_borneBy_30 (fun _ => rfl) ?_
  refine g_if_le 40 dX12_borneBy_33 (by decide) (fun h5 => ?_) (fun h5 => ?_)
  · have hQ := qp (P := gqIV Q) h5 hQ
    have hp := hp.1 h5
    refine g_aload_n 0 dX12_borneBy_40 rfl ?_
    refine g_aload_n 0 dX12_borneBy_41 rfl ?_
    refine g_iload_n 1 dX12_borneBy_42 rfl ?_
    obtain ⟨h6, hp⟩ := hp
    refine g_callV (rest := [.ref (gX E + 559)]) s_X12_167_X12 rfl (c_X12_claim (E := E) (d := d - 1)   (by omega) x1 v h6) (by decide : kd 559 = (0, 9)) (show 559 < 572 by decide) rfl rfl (Nat.le_of_ble_eq_true rfl) (by omega) (by decide) (by decide) dX12_borneBy_43 (adV ?_) axN
    refine g_bipush dX12_borneBy_46 (6 : Int32) (by decide) ?_
    refine g_iload_n 2 dX12_borneBy_48 rfl ?_
    refine g_iadd dX12_borneBy_49 ?_
    obtain ⟨h7, hp⟩ := hp
    refine g_callV (rest := []) s_X12_104_X12 rfl (c_X12_c (E := E) (d := d - 1)   (by omega) (f_X12_claim x1 v) ((6 : Int32) + x2) v h7) (by decide : kd 559 = (0, 9)) (show 559 < 572 by decide) rfl rfl (Nat.le_of_ble_eq_true rfl) (by omega) (by decide) (by decide) dX12_borneBy_50 (adV ?_) axN
    refine g_lv (lv' := []) [] rfl ?_
    exact w_X12_borneBy_53  hd    (f_X12_c (f_X12_claim x1 v) ((6 : Int32) + x2) v) v hp hQ
  · have hQ := qn (P := gqIV Q) h5 hQ
    have hp := hp.2 h5
    refine g_iconst dX12_borneBy_36 (0 : Int32) (by decide) ?_
    refine g_goto 53 dX12_borneBy_37 (by decide) ?_
    refine g_lv (lv' := []) [] rfl ?_
    exact w_X12_borneBy_53  hd    (0 : Int32) v hp hQ
def f_X12_borneBy_26  (x1 : Int32) (x2 : Int32) (s0 : Int32) (v : gV) : Int32 × gV := f_X12_borneBy_29  x1 x2 (vM v 559 6 s0)
def p_X12_borneBy_26  (x1 : Int32) (x2 : Int32) (s0 : Int32) (v : gV) : Prop := p_X12_borneBy_29   x1 x2 (vM v 559 6 s0)
set_option maxHeartbeats 4000000 in
set_option maxRecDepth 100000 in
theorem w_X12_borneBy_26 {E : gE} {d : Nat} {Q : gO → gS → Prop}   (hd : 2 ≤ d) (x1 : Int32) (x2 : Int32) (s0 : Int32) (v : gV) (hp : p_X12_borneBy_26   x1 x2 s0 v) (hQ : gqIV Q (f_X12_borneBy_26  x1 x2 s0 v)) : gG E m_X12_borneBy d Q 0 0 (rS v) 26 [(0, .ref (gX E + 559)), (1, .int x1), (2, .int x2)] [.int s0, .ref (gX E + 559)] := by
  refine r_put pf_X12_28_X12 rfl (by decide : kd 559 = (0, 9)) (by decide) (by decide) rfl (show 559 < 572 by decide) rfl rfl dX12_borneBy_26 ?_
  exact w_X12_borneBy_29  hd    x1 x2 (vM v 559 6 s0) hp hQ
def f_X12_borneBy_0  (x1 : Int32) (x2 : Int32) (v : gV) : Int32 × gV := if 0 ≤ (f_X12_claim x1 v) then (if (f_X12_isTreaty x2 v) = 0 then (f_X12_borneBy_26  x1 x2 (2 : Int32) v) else (f_X12_borneBy_26  x1 x2 (0 : Int32) v)) else (f_X12_borneBy_26  x1 x2 (1 : Int32) v)
def p_X12_borneBy_0  (x1 : Int32) (x2 : Int32) (v : gV) : Prop := (p_X12_claim x1 v) ∧ (((0 ≤ (f_X12_claim x1 v)) → ((p_X12_isTreaty x2 v) ∧ ((((f_X12_isTreaty x2 v) = 0) → (p_X12_borneBy_26   x1 x2 (2 : Int32) v)) ∧ (¬ ((f_X12_isTreaty x2 v) = 0) → (p_X12_borneBy_26   x1 x2 (0 : Int32) v))))) ∧ (¬ (0 ≤ (f_X12_claim x1 v)) → (p_X12_borneBy_26   x1 x2 (1 : Int32) v)))
set_option maxHeartbeats 4000000 in
set_option maxRecDepth 100000 in
theorem w_X12_borneBy_0 {E : gE} {d : Nat} {Q : gO → gS → Prop}   (hd : 2 ≤ d) (x1 : Int32) (x2 : Int32) (v : gV) (hp : p_X12_borneBy_0   x1 x2 v) (hQ : gqIV Q (f_X12_borneBy_0  x1 x2 v)) : gG E m_X12_borneBy d Q 0 0 (rS v) 0 [(0, .ref (gX E + 559)), (1, .int x1), (2, .int x2)] [] := by
  refine g_aload_n 0 dX12_borneBy_0 rfl ?_
  refine g_aload_n 0 dX12_borneBy_1 rfl ?_
  refine g_iload_n 1 dX12_borneBy_2 rfl ?_
  obtain ⟨h1, hp⟩ := hp
  refine g_callV (rest := [.ref (gX E + 559)]) s_X12_167_X12 rfl (c_X12_claim (E := E) (d := d - 1)   (by omega) x1 v h1) (by decide : kd 559 = (0, 9)) (show 559 < 572 by decide) rfl rfl (Nat.le_of_ble_eq_true rfl) (by omega) (by decide) (by decide) dX12_borneBy_3 (adV ?_) axN
  refine g_if_ge 13 dX12_borneBy_6 (by decide) (fun h2 => ?_) (fun h2 => ?_)
  · have hQ := qp (P := gqIV Q) h2 hQ
    have hp := hp.1 h2
    refine g_aload_n 0 dX12_borneBy_13 rfl ?_
    refine g_iload_n 2 dX12_borneBy_14 rfl ?_
    obtain ⟨h3, hp⟩ := hp
    refine g_callV (rest := [.ref (gX E + 559)]) s_X12_134_X12 rfl (c_X12_isTreaty (E := E) (d := d - 1)   (by omega) x2 v h3) (by decide : kd 559 = (0, 9)) (show 559 < 572 by decide) rfl rfl (Nat.le_of_ble_eq_true rfl) (by omega) (by decide) (by decide) dX12_borneBy_15 (adV ?_) axN
    refine g_if_ne 25 dX12_borneBy_18 (by decide) (fun h4 => ?_) (fun h4 => ?_)
    · have hQ := qn (P := gqIV Q) h4 hQ
      have hp := hp.2 h4
      refine g_iconst dX12_borneBy_25 (0 : Int32) (by decide) ?_
      exact w_X12_borneBy_26  hd    x1 x2 (0 : Int32) v hp hQ
    · have hQ := qp (P := gqIV Q) h4 hQ
      have hp := hp.1 h4
      refine g_iconst dX12_borneBy_21 (2 : Int32) (by decide) ?_
      refine g_goto 26 dX12_borneBy_22 (by decide) ?_
      exact w_X12_borneBy_26  hd    x1 x2 (2 : Int32) v hp hQ
  · have hQ := qn (P := gqIV Q) h2 hQ
    have hp := hp.2 h2
    refine g_iconst dX12_borneBy_9 (1 : Int32) (by decide) ?_
    refine g_goto 26 dX12_borneBy_10 (by decide) ?_
    exact w_X12_borneBy_26  hd    x1 x2 (1 : Int32) v hp hQ
def f_X12_borneBy  (x1 : Int32) (x2 : Int32) (v : gV) : Int32 × gV := f_X12_borneBy_0 x1 x2 v
def p_X12_borneBy  (x1 : Int32) (x2 : Int32) (v : gV) : Prop := p_X12_borneBy_0 x1 x2 v
theorem c_X12_borneBy {E : gE} {d : Nat}   (hd : 2 ≤ d) (x1 : Int32) (x2 : Int32) (v : gV) (hp : p_X12_borneBy x1 x2 v) : CT E m_X12_borneBy d 0 0 [.ref (gX E + 559), .int x1, .int x2] (rS v) (Cq (.inl (some (.int ((f_X12_borneBy x1 x2 v).1)))) (f_X12_borneBy x1 x2 v).2) := CT.of ok_X12_borneBy rfl (Nat.le_of_ble_eq_true rfl) (w_X12_borneBy_0  hd x1 x2 v hp ⟨rfl, rfl⟩)
def f_X12_ownPart_44  (s0 : Int32) (v : gV) : Int32 × gV := (s0, v)
def p_X12_ownPart_44  (s0 : Int32) (v : gV) : Prop := True
set_option maxHeartbeats 4000000 in
set_option maxRecDepth 100000 in
theorem w_X12_ownPart_44 {E : gE} {d : Nat} {Q : gO → gS → Prop}   (hd : 2 ≤ d) (s0 : Int32) (v : gV) (hp : p_X12_ownPart_44   s0 v) (hQ : gqIV Q (f_X12_ownPart_44  s0 v)) : gG E m_X12_ownPart d Q 0 0 (rS v) 44 [] [.int s0] := by
  exact g_iret rfl dX12_ownPart_44 hQ
def f_X12_ownPart_17  (x1 : Int32) (s0 : Int32) (v : gV) : Int32 × gV := if s0 ≤ 0 then (f_X12_ownPart_44  ((f_X12_c (f_X12_claim x1 v) (3 : Int32) v) - (f_X12_borneOf (f_X12_claim x1 v) v)) v) else (f_X12_ownPart_44  (0 : Int32) v)
def p_X12_ownPart_17  (x1 : Int32) (s0 : Int32) (v : gV) : Prop := ((s0 ≤ 0) → ((p_X12_claim x1 v) ∧ ((p_X12_c (f_X12_claim x1 v) (3 : Int32) v) ∧ ((p_X12_claim x1 v) ∧ ((p_X12_borneOf (f_X12_claim x1 v) v) ∧ (p_X12_ownPart_44   ((f_X12_c (f_X12_claim x1 v) (3 : Int32) v) - (f_X12_borneOf (f_X12_claim x1 v) v)) v)))))) ∧ (¬ (s0 ≤ 0) → (p_X12_ownPart_44   (0 : Int32) v))
set_option maxHeartbeats 4000000 in
set_option maxRecDepth 100000 in
theorem w_X12_ownPart_17 {E : gE} {d : Nat} {Q : gO → gS → Prop}   (hd : 2 ≤ d) (x1 : Int32) (s0 : Int32) (v : gV) (hp : p_X12_ownPart_17   x1 s0 v) (hQ : gqIV Q (f_X12_ownPart_17  x1 s0 v)) : gG E m_X12_ownPart d Q 0 0 (rS v) 17 [(0, .ref (gX E + 559)), (1, .int x1)] [.int s0] := by
  refine g_if_le 24 dX12_ownPart_17 (by decide) (fun h4 => ?_) (fun h4 => ?_)
  · have hQ := qp (P := gqIV Q) h4 hQ
    have hp := hp.1 h4
    refine g_aload_n 0 dX12_ownPart_24 rfl ?_
    refine g_aload_n 0 dX12_ownPart_25 rfl ?_
    refine g_iload_n 1 dX12_ownPart_26 rfl ?_
    obtain ⟨h5, hp⟩ := hp
    refine g_callV (rest := [.ref (gX E + 559)]) s_X12_167_X12 rfl (c_X12_claim (E := E) (d := d - 1)   (by omega) x1 v h5) (by decide : kd 559 = (0, 9)) (show 559 < 572 by decide) rfl rfl (Nat.le_of_ble_eq_true rfl) (by omega) (by decide) (by decide) dX12_ownPart_27 (adV ?_) axN
    refine g_iconst dX12_ownPart_30 (3 : Int32) (by decide) ?_
    obtain ⟨h6, hp⟩ := hp
    refine g_callV (rest := []) s_X12_104_X12 rfl (c_X12_c (E := E) (d := d - 1)   (by omega) (f_X12_claim x1 v) (3 : Int32) v h6) (by decide : kd 559 = (0, 9)) (show 559 < 572 by decide) rfl rfl (Nat.le_of_ble_eq_true rfl) (by omega) (by decide) (by decide) dX12_ownPart_31 (adV ?_) axN
    refine g_aload_n 0 dX12_ownPart_34 rfl ?_
    refine g_aload_n 0 dX12_ownPart_35 rfl ?_
    refine g_iload_n 1 dX12_ownPart_36 rfl ?_
    obtain ⟨h7, hp⟩ := hp
    refine g_callV (rest := [.ref (gX E + 559), .int ((f_X12_c (f_X12_claim x1 v) (3 : Int32) v))]) s_X12_167_X12 rfl (c_X12_claim (E := E) (d := d - 1)   (by omega) x1 v h7) (by decide : kd 559 = (0, 9)) (show 559 < 572 by decide) rfl rfl (Nat.le_of_ble_eq_true rfl) (by omega) (by decide) (by decide) dX12_ownPart_37 (adV ?_) axN
    obtain ⟨h8, hp⟩ := hp
    refine g_callV (rest := [.int ((f_X12_c (f_X12_claim x1 v) (3 : Int32) v))]) s_X12_146_X12 rfl (c_X12_borneOf (E := E) (d := d - 1)   (by omega) (f_X12_claim x1 v) v h8) (by decide : kd 559 = (0, 9)) (show 559 < 572 by decide) rfl rfl (Nat.le_of_ble_eq_true rfl) (by omega) (by decide) (by decide) dX12_ownPart_40 (adV ?_) axN
    refine g_isub dX12_ownPart_43 ?_
    refine g_lv (lv' := []) [] rfl ?_
    exact w_X12_ownPart_44  hd    ((f_X12_c (f_X12_claim x1 v) (3 : Int32) v) - (f_X12_borneOf (f_X12_claim x1 v) v)) v hp hQ
  · have hQ := qn (P := gqIV Q) h4 hQ
    have hp := hp.2 h4
    refine g_iconst dX12_ownPart_20 (0 : Int32) (by decide) ?_
    refine g_goto 44 dX12_ownPart_21 (by decide) ?_
    refine g_lv (lv' := []) [] rfl ?_
    exact w_X12_ownPart_44  hd    (0 : Int32) v hp hQ
def f_X12_ownPart_14  (x1 : Int32) (s0 : Int32) (v : gV) : Int32 × gV := f_X12_ownPart_17  x1 ((f_X12_checked s0 v).1) (f_X12_checked s0 v).2
def p_X12_ownPart_14  (x1 : Int32) (s0 : Int32) (v : gV) : Prop := (p_X12_checked s0 v) ∧ (p_X12_ownPart_17   x1 ((f_X12_checked s0 v).1) (f_X12_checked s0 v).2)
set_option maxHeartbeats 4000000 in
set_option maxRecDepth 100000 in
theorem w_X12_ownPart_14 {E : gE} {d : Nat} {Q : gO → gS → Prop}   (hd : 2 ≤ d) (x1 : Int32) (s0 : Int32) (v : gV) (hp : p_X12_ownPart_14   x1 s0 v) (hQ : gqIV Q (f_X12_ownPart_14  x1 s0 v)) : gG E m_X12_ownPart d Q 0 0 (rS v) 14 [(0, .ref (gX E + 559)), (1, .int x1)] [.int s0, .ref (gX E + 559)] := by
  obtain ⟨h3, hp⟩ := hp
  refine g_callV (rest := []) s_X12_213_X12 rfl (c_X12_checked (E := E) (d := d - 1)   (by omega) s0 v h3) (by decide : kd 559 = (0, 9)) (show 559 < 572 by decide) rfl rfl (Nat.le_of_ble_eq_true rfl) (by omega) (by decide) (by decide) dX12_ownPart_14 (adV ?_) axN
  exact w_X12_ownPart_17  hd    x1 ((f_X12_checked s0 v).1) (f_X12_checked s0 v).2 hp hQ
def f_X12_ownPart_0  (x1 : Int32) (v : gV) : Int32 × gV := if (f_X12_claim x1 v) < 0 then (f_X12_ownPart_14  x1 (0 : Int32) v) else (f_X12_ownPart_14  x1 (1 : Int32) v)
def p_X12_ownPart_0  (x1 : Int32) (v : gV) : Prop := (p_X12_claim x1 v) ∧ ((((f_X12_claim x1 v) < 0) → (p_X12_ownPart_14   x1 (0 : Int32) v)) ∧ (¬ ((f_X12_claim x1 v) < 0) → (p_X12_ownPart_14   x1 (1 : Int32) v)))
set_option maxHeartbeats 4000000 in
set_option maxRecDepth 100000 in
theorem w_X12_ownPart_0 {E : gE} {d : Nat} {Q : gO → gS → Prop}   (hd : 2 ≤ d) (x1 : Int32) (v : gV) (hp : p_X12_ownPart_0   x1 v) (hQ : gqIV Q (f_X12_ownPart_0  x1 v)) : gG E m_X12_ownPart d Q 0 0 (rS v) 0 [(0, .ref (gX E + 559)), (1, .int x1)] [] := by
  refine g_aload_n 0 dX12_ownPart_0 rfl ?_
  refine g_aload_n 0 dX12_ownPart_1 rfl ?_
  refine g_iload_n 1 dX12_ownPart_2 rfl ?_
  obtain ⟨h1, hp⟩ := hp
  refine g_callV (rest := [.ref (gX E + 559)]) s_X12_167_X12 rfl (c_X12_claim (E := E) (d := d - 1)   (by omega) x1 v h1) (by decide : kd 559 = (0, 9)) (show 559 < 572 by decide) rfl rfl (Nat.le_of_ble_eq_true rfl) (by omega) (by decide) (by decide) dX12_ownPart_3 (adV ?_) axN
  refine g_if_lt 13 dX12_ownPart_6 (by decide) (fun h2 => ?_) (fun h2 => ?_)
  · have hQ := qp (P := gqIV Q) h2 hQ
    have hp := hp.1 h2
    refine g_iconst dX12_ownPart_13 (0 : Int32) (by decide) ?_
    exact w_X12_ownPart_14  hd    x1 (0 : Int32) v hp hQ
  · have hQ := qn (P := gqIV Q) h2 hQ
    have hp := hp.2 h2
    refine g_iconst dX12_ownPart_9 (1 : Int32) (by decide) ?_
    refine g_goto 14 dX12_ownPart_10 (by decide) ?_
    exact w_X12_ownPart_14  hd    x1 (1 : Int32) v hp hQ
def f_X12_ownPart  (x1 : Int32) (v : gV) : Int32 × gV := f_X12_ownPart_0 x1 v
def p_X12_ownPart  (x1 : Int32) (v : gV) : Prop := p_X12_ownPart_0 x1 v
theorem c_X12_ownPart {E : gE} {d : Nat}   (hd : 2 ≤ d) (x1 : Int32) (v : gV) (hp : p_X12_ownPart x1 v) : CT E m_X12_ownPart d 0 0 [.ref (gX E + 559), .int x1] (rS v) (Cq (.inl (some (.int ((f_X12_ownPart x1 v).1)))) (f_X12_ownPart x1 v).2) := CT.of ok_X12_ownPart rfl (Nat.le_of_ble_eq_true rfl) (w_X12_ownPart_0  hd x1 v hp ⟨rfl, rfl⟩)
def f_X12_recovered_33  (s0 : Int32) (v : gV) : Int32 × gV := (s0, v)
def p_X12_recovered_33  (s0 : Int32) (v : gV) : Prop := True
set_option maxHeartbeats 4000000 in
set_option maxRecDepth 100000 in
theorem w_X12_recovered_33 {E : gE} {d : Nat} {Q : gO → gS → Prop}   (hd : 3 ≤ d) (s0 : Int32) (v : gV) (hp : p_X12_recovered_33   s0 v) (hQ : gqIV Q (f_X12_recovered_33  s0 v)) : gG E m_X12_recovered d Q 0 0 (rS v) 33 [] [.int s0] := by
  exact g_iret rfl dX12_recovered_33 hQ
def f_X12_recovered_17  (x1 : Int32) (s0 : Int32) (v : gV) : Int32 × gV := if s0 ≤ 0 then (f_X12_recovered_33  (f_X12_recoveredOf (f_X12_claim x1 v) v) v) else (f_X12_recovered_33  (0 : Int32) v)
def p_X12_recovered_17  (x1 : Int32) (s0 : Int32) (v : gV) : Prop := ((s0 ≤ 0) → ((p_X12_claim x1 v) ∧ ((p_X12_recoveredOf (f_X12_claim x1 v) v) ∧ (p_X12_recovered_33   (f_X12_recoveredOf (f_X12_claim x1 v) v) v)))) ∧ (¬ (s0 ≤ 0) → (p_X12_recovered_33   (0 : Int32) v))
set_option maxHeartbeats 4000000 in
set_option maxRecDepth 100000 in
theorem w_X12_recovered_17 {E : gE} {d : Nat} {Q : gO → gS → Prop}   (hd : 3 ≤ d) (x1 : Int32) (s0 : Int32) (v : gV) (hp : p_X12_recovered_17   x1 s0 v) (hQ : gqIV Q (f_X12_recovered_17  x1 s0 v)) : gG E m_X12_recovered d Q 0 0 (rS v) 17 [(0, .ref (gX E + 559)), (1, .int x1)] [.int s0] := by
  refine g_if_le 24 dX12_recovered_17 (by decide) (fun h4 => ?_) (fun h4 => ?_)
  · have hQ := qp (P := gqIV Q) h4 hQ
    have hp := hp.1 h4
    refine g_aload_n 0 dX12_recovered_24 rfl ?_
    refine g_aload_n 0 dX12_recovered_25 rfl ?_
    refine g_iload_n 1 dX12_recovered_26 rfl ?_
    obtain ⟨h5, hp⟩ := hp
    refine g_callV (rest := [.ref (gX E + 559)]) s_X12_167_X12 rfl (c_X12_claim (E := E) (d := d - 1)   (by omega) x1 v h5) (by decide : kd 559 = (0, 9)) (show 559 < 572 by decide) rfl rfl (Nat.le_of_ble_eq_true rfl) (by omega) (by decide) (by decide) dX12_recovered_27 (adV ?_) axN
    obtain ⟨h6, hp⟩ := hp
    refine g_callV (rest := []) s_X12_170_X12 rfl (c_X12_recoveredOf (E := E) (d := d - 1)   (by omega) (f_X12_claim x1 v) v h6) (by decide : kd 559 = (0, 9)) (show 559 < 572 by decide) rfl rfl (Nat.le_of_ble_eq_true rfl) (by omega) (by decide) (by decide) dX12_recovered_30 (adV ?_) axN
    refine g_lv (lv' := []) [] rfl ?_
    exact w_X12_recovered_33  hd    (f_X12_recoveredOf (f_X12_claim x1 v) v) v hp hQ
  · have hQ := qn (P := gqIV Q) h4 hQ
    have hp := hp.2 h4
    refine g_iconst dX12_recovered_20 (0 : Int32) (by decide) ?_
    refine g_goto 33 dX12_recovered_21 (by decide) ?_
    refine g_lv (lv' := []) [] rfl ?_
    exact w_X12_recovered_33  hd    (0 : Int32) v hp hQ
def f_X12_recovered_14  (x1 : Int32) (s0 : Int32) (v : gV) : Int32 × gV := f_X12_recovered_17  x1 ((f_X12_checked s0 v).1) (f_X12_checked s0 v).2
def p_X12_recovered_14  (x1 : Int32) (s0 : Int32) (v : gV) : Prop := (p_X12_checked s0 v) ∧ (p_X12_recovered_17   x1 ((f_X12_checked s0 v).1) (f_X12_checked s0 v).2)
set_option maxHeartbeats 4000000 in
set_option maxRecDepth 100000 in
theorem w_X12_recovered_14 {E : gE} {d : Nat} {Q : gO → gS → Prop}   (hd : 3 ≤ d) (x1 : Int32) (s0 : Int32) (v : gV) (hp : p_X12_recovered_14   x1 s0 v) (hQ : gqIV Q (f_X12_recovered_14  x1 s0 v)) : gG E m_X12_recovered d Q 0 0 (rS v) 14 [(0, .ref (gX E + 559)), (1, .int x1)] [.int s0, .ref (gX E + 559)] := by
  obtain ⟨h3, hp⟩ := hp
  refine g_callV (rest := []) s_X12_213_X12 rfl (c_X12_checked (E := E) (d := d - 1)   (by omega) s0 v h3) (by decide : kd 559 = (0, 9)) (show 559 < 572 by decide) rfl rfl (Nat.le_of_ble_eq_true rfl) (by omega) (by decide) (by decide) dX12_recovered_14 (adV ?_) axN
  exact w_X12_recovered_17  hd    x1 ((f_X12_checked s0 v).1) (f_X12_checked s0 v).2 hp hQ
def f_X12_recovered_0  (x1 : Int32) (v : gV) : Int32 × gV := if (f_X12_claim x1 v) < 0 then (f_X12_recovered_14  x1 (0 : Int32) v) else (f_X12_recovered_14  x1 (1 : Int32) v)
def p_X12_recovered_0  (x1 : Int32) (v : gV) : Prop := (p_X12_claim x1 v) ∧ ((((f_X12_claim x1 v) < 0) → (p_X12_recovered_14   x1 (0 : Int32) v)) ∧ (¬ ((f_X12_claim x1 v) < 0) → (p_X12_recovered_14   x1 (1 : Int32) v)))
set_option maxHeartbeats 4000000 in
set_option maxRecDepth 100000 in
theorem w_X12_recovered_0 {E : gE} {d : Nat} {Q : gO → gS → Prop}   (hd : 3 ≤ d) (x1 : Int32) (v : gV) (hp : p_X12_recovered_0   x1 v) (hQ : gqIV Q (f_X12_recovered_0  x1 v)) : gG E m_X12_recovered d Q 0 0 (rS v) 0 [(0, .ref (gX E + 559)), (1, .int x1)] [] := by
  refine g_aload_n 0 dX12_recovered_0 rfl ?_
  refine g_aload_n 0 dX12_recovered_1 rfl ?_
  refine g_iload_n 1 dX12_recovered_2 rfl ?_
  obtain ⟨h1, hp⟩ := hp
  refine g_callV (rest := [.ref (gX E + 559)]) s_X12_167_X12 rfl (c_X12_claim (E := E) (d := d - 1)   (by omega) x1 v h1) (by decide : kd 559 = (0, 9)) (show 559 < 572 by decide) rfl rfl (Nat.le_of_ble_eq_true rfl) (by omega) (by decide) (by decide) dX12_recovered_3 (adV ?_) axN
  refine g_if_lt 13 dX12_recovered_6 (by decide) (fun h2 => ?_) (fun h2 => ?_)
  · have hQ := qp (P := gqIV Q) h2 hQ
    have hp := hp.1 h2
    refine g_iconst dX12_recovered_13 (0 : Int32) (by decide) ?_
    exact w_X12_recovered_14  hd    x1 (0 : Int32) v hp hQ
  · have hQ := qn (P := gqIV Q) h2 hQ
    have hp := hp.2 h2
    refine g_iconst dX12_recovered_9 (1 : Int32) (by decide) ?_
    refine g_goto 14 dX12_recovered_10 (by decide) ?_
    exact w_X12_recovered_14  hd    x1 (1 : Int32) v hp hQ
def f_X12_recovered  (x1 : Int32) (v : gV) : Int32 × gV := f_X12_recovered_0 x1 v
def p_X12_recovered  (x1 : Int32) (v : gV) : Prop := p_X12_recovered_0 x1 v
theorem c_X12_recovered {E : gE} {d : Nat}   (hd : 3 ≤ d) (x1 : Int32) (v : gV) (hp : p_X12_recovered x1 v) : CT E m_X12_recovered d 0 0 [.ref (gX E + 559), .int x1] (rS v) (Cq (.inl (some (.int ((f_X12_recovered x1 v).1)))) (f_X12_recovered x1 v).2) := CT.of ok_X12_recovered rfl (Nat.le_of_ble_eq_true rfl) (w_X12_recovered_0  hd x1 v hp ⟨rfl, rfl⟩)
def f_X12_treatyCount_10  (s0 : Int32) (v : gV) : Int32 × gV := (s0, v)
def p_X12_treatyCount_10  (s0 : Int32) (v : gV) : Prop := True
set_option maxHeartbeats 4000000 in
set_option maxRecDepth 100000 in
theorem w_X12_treatyCount_10 {E : gE} {d : Nat} {Q : gO → gS → Prop}   (hd : 1 ≤ d) (s0 : Int32) (v : gV) (hp : p_X12_treatyCount_10   s0 v) (hQ : gqIV Q (f_X12_treatyCount_10  s0 v)) : gG E m_X12_treatyCount d Q 0 0 (rS v) 10 [] [.int s0] := by
  exact g_iret rfl dX12_treatyCount_10 hQ
def f_X12_treatyCount_0   (v : gV) : Int32 × gV := f_X12_treatyCount_10  ((f_X12_plain (v.1 560 (2 : Int32).toNatClampNeg) v).1) (f_X12_plain (v.1 560 (2 : Int32).toNatClampNeg) v).2
def p_X12_treatyCount_0   (v : gV) : Prop := (p_X12_plain (v.1 560 (2 : Int32).toNatClampNeg) v) ∧ (p_X12_treatyCount_10   ((f_X12_plain (v.1 560 (2 : Int32).toNatClampNeg) v).1) (f_X12_plain (v.1 560 (2 : Int32).toNatClampNeg) v).2)
set_option maxHeartbeats 4000000 in
set_option maxRecDepth 100000 in
theorem w_X12_treatyCount_0 {E : gE} {d : Nat} {Q : gO → gS → Prop}   (hd : 1 ≤ d)  (v : gV) (hp : p_X12_treatyCount_0    v) (hQ : gqIV Q (f_X12_treatyCount_0   v)) : gG E m_X12_treatyCount d Q 0 0 (rS v) 0 [(0, .ref (gX E + 559))] [] := by
  refine g_aload_n 0 dX12_treatyCount_0 rfl ?_
  refine g_aload_n 0 dX12_treatyCount_1 rfl ?_
  refine r_get (.ref (gX E + 560)) f_X12_7_X12 rfl (by decide : kd 559 = (0, 9)) (show 559 < 572 by decide) dX12_treatyCount_2 (fun _ => rfl) ?_
  refine g_iconst dX12_treatyCount_5 (2 : Int32) (by decide) ?_
  refine g_iald (by decide : kd 560 = (1, 300)) (show 560 < 572 by decide) (show ¬ (_ ∨ _) by decide) dX12_treatyCount_6 ?_
  obtain ⟨h1, hp⟩ := hp
  refine g_callV (rest := []) s_X12_210_X12 rfl (c_X12_plain (E := E) (d := d - 1)   (by omega) (v.1 560 (2 : Int32).toNatClampNeg) v h1) (by decide : kd 559 = (0, 9)) (show 559 < 572 by decide) rfl rfl (Nat.le_of_ble_eq_true rfl) (by omega) (by decide) (by decide) dX12_treatyCount_7 (adV ?_) axN
  refine g_lv (lv' := []) [] rfl ?_
  exact w_X12_treatyCount_10  hd    ((f_X12_plain (v.1 560 (2 : Int32).toNatClampNeg) v).1) (f_X12_plain (v.1 560 (2 : Int32).toNatClampNeg) v).2 hp hQ
def f_X12_treatyCount   (v : gV) : Int32 × gV := f_X12_treatyCount_0  v
def p_X12_treatyCount   (v : gV) : Prop := p_X12_treatyCount_0  v
theorem c_X12_treatyCount {E : gE} {d : Nat}   (hd : 1 ≤ d)  (v : gV) (hp : p_X12_treatyCount  v) : CT E m_X12_treatyCount d 0 0 [.ref (gX E + 559)] (rS v) (Cq (.inl (some (.int ((f_X12_treatyCount  v).1)))) (f_X12_treatyCount  v).2) := CT.of ok_X12_treatyCount rfl (Nat.le_of_ble_eq_true rfl) (w_X12_treatyCount_0  hd  v hp ⟨rfl, rfl⟩)
def f_X12_startOf_22  (s0 : Int32) (v : gV) : Int32 × gV := (s0, v)
def p_X12_startOf_22  (s0 : Int32) (v : gV) : Prop := True
set_option maxHeartbeats 4000000 in
set_option maxRecDepth 100000 in
theorem w_X12_startOf_22 {E : gE} {d : Nat} {Q : gO → gS → Prop}   (hd : 2 ≤ d) (s0 : Int32) (v : gV) (hp : p_X12_startOf_22   s0 v) (hQ : gqIV Q (f_X12_startOf_22  s0 v)) : gG E m_X12_startOf d Q 0 0 (rS v) 22 [] [.int s0] := by
  exact g_iret rfl dX12_startOf_22 hQ
def f_X12_startOf_9  (x1 : Int32) (s0 : Int32) (v : gV) : Int32 × gV := if s0 ≤ 0 then (f_X12_startOf_22  (f_X12_t x1 (0 : Int32) v) v) else (f_X12_startOf_22  (0 : Int32) v)
def p_X12_startOf_9  (x1 : Int32) (s0 : Int32) (v : gV) : Prop := ((s0 ≤ 0) → ((p_X12_t x1 (0 : Int32) v) ∧ (p_X12_startOf_22   (f_X12_t x1 (0 : Int32) v) v))) ∧ (¬ (s0 ≤ 0) → (p_X12_startOf_22   (0 : Int32) v))
set_option maxHeartbeats 4000000 in
set_option maxRecDepth 100000 in
theorem w_X12_startOf_9 {E : gE} {d : Nat} {Q : gO → gS → Prop}   (hd : 2 ≤ d) (x1 : Int32) (s0 : Int32) (v : gV) (hp : p_X12_startOf_9   x1 s0 v) (hQ : gqIV Q (f_X12_startOf_9  x1 s0 v)) : gG E m_X12_startOf d Q 0 0 (rS v) 9 [(0, .ref (gX E + 559)), (1, .int x1)] [.int s0] := by
  refine g_if_le 16 dX12_startOf_9 (by decide) (fun h3 => ?_) (fun h3 => ?_)
  · have hQ := qp (P := gqIV Q) h3 hQ
    have hp := hp.1 h3
    refine g_aload_n 0 dX12_startOf_16 rfl ?_
    refine g_iload_n 1 dX12_startOf_17 rfl ?_
    refine g_iconst dX12_startOf_18 (0 : Int32) (by decide) ?_
    obtain ⟨h4, hp⟩ := hp
    refine g_callV (rest := []) s_X12_137_X12 rfl (c_X12_t (E := E) (d := d - 1)   (by omega) x1 (0 : Int32) v h4) (by decide : kd 559 = (0, 9)) (show 559 < 572 by decide) rfl rfl (Nat.le_of_ble_eq_true rfl) (by omega) (by decide) (by decide) dX12_startOf_19 (adV ?_) axN
    refine g_lv (lv' := []) [] rfl ?_
    exact w_X12_startOf_22  hd    (f_X12_t x1 (0 : Int32) v) v hp hQ
  · have hQ := qn (P := gqIV Q) h3 hQ
    have hp := hp.2 h3
    refine g_iconst dX12_startOf_12 (0 : Int32) (by decide) ?_
    refine g_goto 22 dX12_startOf_13 (by decide) ?_
    refine g_lv (lv' := []) [] rfl ?_
    exact w_X12_startOf_22  hd    (0 : Int32) v hp hQ
def f_X12_startOf_0  (x1 : Int32) (v : gV) : Int32 × gV := f_X12_startOf_9  x1 ((f_X12_checked (f_X12_isTreaty x1 v) v).1) (f_X12_checked (f_X12_isTreaty x1 v) v).2
def p_X12_startOf_0  (x1 : Int32) (v : gV) : Prop := (p_X12_isTreaty x1 v) ∧ ((p_X12_checked (f_X12_isTreaty x1 v) v) ∧ (p_X12_startOf_9   x1 ((f_X12_checked (f_X12_isTreaty x1 v) v).1) (f_X12_checked (f_X12_isTreaty x1 v) v).2))
set_option maxHeartbeats 4000000 in
set_option maxRecDepth 100000 in
theorem w_X12_startOf_0 {E : gE} {d : Nat} {Q : gO → gS → Prop}   (hd : 2 ≤ d) (x1 : Int32) (v : gV) (hp : p_X12_startOf_0   x1 v) (hQ : gqIV Q (f_X12_startOf_0  x1 v)) : gG E m_X12_startOf d Q 0 0 (rS v) 0 [(0, .ref (gX E + 559)), (1, .int x1)] [] := by
  refine g_aload_n 0 dX12_startOf_0 rfl ?_
  refine g_aload_n 0 dX12_startOf_1 rfl ?_
  refine g_iload_n 1 dX12_startOf_2 rfl ?_
  obtain ⟨h1, hp⟩ := hp
  refine g_callV (rest := [.ref (gX E + 559)]) s_X12_134_X12 rfl (c_X12_isTreaty (E := E) (d := d - 1)   (by omega) x1 v h1) (by decide : kd 559 = (0, 9)) (show 559 < 572 by decide) rfl rfl (Nat.le_of_ble_eq_true rfl) (by omega) (by decide) (by decide) dX12_startOf_3 (adV ?_) axN
  obtain ⟨h2, hp⟩ := hp
  refine g_callV (rest := []) s_X12_213_X12 rfl (c_X12_checked (E := E) (d := d - 1)   (by omega) (f_X12_isTreaty x1 v) v h2) (by decide : kd 559 = (0, 9)) (show 559 < 572 by decide) rfl rfl (Nat.le_of_ble_eq_true rfl) (by omega) (by decide) (by decide) dX12_startOf_6 (adV ?_) axN
  exact w_X12_startOf_9  hd    x1 ((f_X12_checked (f_X12_isTreaty x1 v) v).1) (f_X12_checked (f_X12_isTreaty x1 v) v).2 hp hQ
def f_X12_startOf  (x1 : Int32) (v : gV) : Int32 × gV := f_X12_startOf_0 x1 v
def p_X12_startOf  (x1 : Int32) (v : gV) : Prop := p_X12_startOf_0 x1 v
theorem c_X12_startOf {E : gE} {d : Nat}   (hd : 2 ≤ d) (x1 : Int32) (v : gV) (hp : p_X12_startOf x1 v) : CT E m_X12_startOf d 0 0 [.ref (gX E + 559), .int x1] (rS v) (Cq (.inl (some (.int ((f_X12_startOf x1 v).1)))) (f_X12_startOf x1 v).2) := CT.of ok_X12_startOf rfl (Nat.le_of_ble_eq_true rfl) (w_X12_startOf_0  hd x1 v hp ⟨rfl, rfl⟩)
def f_X12_capacityOf_22  (s0 : Int32) (v : gV) : Int32 × gV := (s0, v)
def p_X12_capacityOf_22  (s0 : Int32) (v : gV) : Prop := True
set_option maxHeartbeats 4000000 in
set_option maxRecDepth 100000 in
theorem w_X12_capacityOf_22 {E : gE} {d : Nat} {Q : gO → gS → Prop}   (hd : 2 ≤ d) (s0 : Int32) (v : gV) (hp : p_X12_capacityOf_22   s0 v) (hQ : gqIV Q (f_X12_capacityOf_22  s0 v)) : gG E m_X12_capacityOf d Q 0 0 (rS v) 22 [] [.int s0] := by
  exact g_iret rfl dX12_capacityOf_22 hQ
def f_X12_capacityOf_9  (x1 : Int32) (s0 : Int32) (v : gV) : Int32 × gV := if s0 ≤ 0 then (f_X12_capacityOf_22  (f_X12_t x1 (2 : Int32) v) v) else (f_X12_capacityOf_22  (0 : Int32) v)
def p_X12_capacityOf_9  (x1 : Int32) (s0 : Int32) (v : gV) : Prop := ((s0 ≤ 0) → ((p_X12_t x1 (2 : Int32) v) ∧ (p_X12_capacityOf_22   (f_X12_t x1 (2 : Int32) v) v))) ∧ (¬ (s0 ≤ 0) → (p_X12_capacityOf_22   (0 : Int32) v))
set_option maxHeartbeats 4000000 in
set_option maxRecDepth 100000 in
theorem w_X12_capacityOf_9 {E : gE} {d : Nat} {Q : gO → gS → Prop}   (hd : 2 ≤ d) (x1 : Int32) (s0 : Int32) (v : gV) (hp : p_X12_capacityOf_9   x1 s0 v) (hQ : gqIV Q (f_X12_capacityOf_9  x1 s0 v)) : gG E m_X12_capacityOf d Q 0 0 (rS v) 9 [(0, .ref (gX E + 559)), (1, .int x1)] [.int s0] := by
  refine g_if_le 16 dX12_capacityOf_9 (by decide) (fun h3 => ?_) (fun h3 => ?_)
  · have hQ := qp (P := gqIV Q) h3 hQ
    have hp := hp.1 h3
    refine g_aload_n 0 dX12_capacityOf_16 rfl ?_
    refine g_iload_n 1 dX12_capacityOf_17 rfl ?_
    refine g_iconst dX12_capacityOf_18 (2 : Int32) (by decide) ?_
    obtain ⟨h4, hp⟩ := hp
    refine g_callV (rest := []) s_X12_137_X12 rfl (c_X12_t (E := E) (d := d - 1)   (by omega) x1 (2 : Int32) v h4) (by decide : kd 559 = (0, 9)) (show 559 < 572 by decide) rfl rfl (Nat.le_of_ble_eq_true rfl) (by omega) (by decide) (by decide) dX12_capacityOf_19 (adV ?_) axN
    refine g_lv (lv' := []) [] rfl ?_
    exact w_X12_capacityOf_22  hd    (f_X12_t x1 (2 : Int32) v) v hp hQ
  · have hQ := qn (P := gqIV Q) h3 hQ
    have hp := hp.2 h3
    refine g_iconst dX12_capacityOf_12 (0 : Int32) (by decide) ?_
    refine g_goto 22 dX12_capacityOf_13 (by decide) ?_
    refine g_lv (lv' := []) [] rfl ?_
    exact w_X12_capacityOf_22  hd    (0 : Int32) v hp hQ
def f_X12_capacityOf_0  (x1 : Int32) (v : gV) : Int32 × gV := f_X12_capacityOf_9  x1 ((f_X12_checked (f_X12_isTreaty x1 v) v).1) (f_X12_checked (f_X12_isTreaty x1 v) v).2
def p_X12_capacityOf_0  (x1 : Int32) (v : gV) : Prop := (p_X12_isTreaty x1 v) ∧ ((p_X12_checked (f_X12_isTreaty x1 v) v) ∧ (p_X12_capacityOf_9   x1 ((f_X12_checked (f_X12_isTreaty x1 v) v).1) (f_X12_checked (f_X12_isTreaty x1 v) v).2))
set_option maxHeartbeats 4000000 in
set_option maxRecDepth 100000 in
theorem w_X12_capacityOf_0 {E : gE} {d : Nat} {Q : gO → gS → Prop}   (hd : 2 ≤ d) (x1 : Int32) (v : gV) (hp : p_X12_capacityOf_0   x1 v) (hQ : gqIV Q (f_X12_capacityOf_0  x1 v)) : gG E m_X12_capacityOf d Q 0 0 (rS v) 0 [(0, .ref (gX E + 559)), (1, .int x1)] [] := by
  refine g_aload_n 0 dX12_capacityOf_0 rfl ?_
  refine g_aload_n 0 dX12_capacityOf_1 rfl ?_
  refine g_iload_n 1 dX12_capacityOf_2 rfl ?_
  obtain ⟨h1, hp⟩ := hp
  refine g_callV (rest := [.ref (gX E + 559)]) s_X12_134_X12 rfl (c_X12_isTreaty (E := E) (d := d - 1)   (by omega) x1 v h1) (by decide : kd 559 = (0, 9)) (show 559 < 572 by decide) rfl rfl (Nat.le_of_ble_eq_true rfl) (by omega) (by decide) (by decide) dX12_capacityOf_3 (adV ?_) axN
  obtain ⟨h2, hp⟩ := hp
  refine g_callV (rest := []) s_X12_213_X12 rfl (c_X12_checked (E := E) (d := d - 1)   (by omega) (f_X12_isTreaty x1 v) v h2) (by decide : kd 559 = (0, 9)) (show 559 < 572 by decide) rfl rfl (Nat.le_of_ble_eq_true rfl) (by omega) (by decide) (by decide) dX12_capacityOf_6 (adV ?_) axN
  exact w_X12_capacityOf_9  hd    x1 ((f_X12_checked (f_X12_isTreaty x1 v) v).1) (f_X12_checked (f_X12_isTreaty x1 v) v).2 hp hQ
def f_X12_capacityOf  (x1 : Int32) (v : gV) : Int32 × gV := f_X12_capacityOf_0 x1 v
def p_X12_capacityOf  (x1 : Int32) (v : gV) : Prop := p_X12_capacityOf_0 x1 v
theorem c_X12_capacityOf {E : gE} {d : Nat}   (hd : 2 ≤ d) (x1 : Int32) (v : gV) (hp : p_X12_capacityOf x1 v) : CT E m_X12_capacityOf d 0 0 [.ref (gX E + 559), .int x1] (rS v) (Cq (.inl (some (.int ((f_X12_capacityOf x1 v).1)))) (f_X12_capacityOf x1 v).2) := CT.of ok_X12_capacityOf rfl (Nat.le_of_ble_eq_true rfl) (w_X12_capacityOf_0  hd x1 v hp ⟨rfl, rfl⟩)
def f_X12_wouldBear_23  (s0 : Int32) (v : gV) : Int32 × gV := (s0, v)
def p_X12_wouldBear_23  (s0 : Int32) (v : gV) : Prop := True
set_option maxHeartbeats 4000000 in
set_option maxRecDepth 100000 in
theorem w_X12_wouldBear_23 {E : gE} {d : Nat} {Q : gO → gS → Prop}   (hd : 3 ≤ d) (s0 : Int32) (v : gV) (hp : p_X12_wouldBear_23   s0 v) (hQ : gqIV Q (f_X12_wouldBear_23  s0 v)) : gG E m_X12_wouldBear d Q 0 0 (rS v) 23 [] [.int s0] := by
  exact g_iret rfl dX12_wouldBear_23 hQ
def f_X12_wouldBear_11  (x1 : Int32) (s0 : Int32) (v : gV) : Int32 × gV := if s0 ≤ 0 then (f_X12_wouldBear_23  ((f_X12_bears x1 v).1) (f_X12_bears x1 v).2) else (f_X12_wouldBear_23  (0 : Int32) v)
def p_X12_wouldBear_11  (x1 : Int32) (s0 : Int32) (v : gV) : Prop := ((s0 ≤ 0) → ((p_X12_bears x1 v) ∧ (p_X12_wouldBear_23   ((f_X12_bears x1 v).1) (f_X12_bears x1 v).2))) ∧ (¬ (s0 ≤ 0) → (p_X12_wouldBear_23   (0 : Int32) v))
set_option maxHeartbeats 4000000 in
set_option maxRecDepth 100000 in
theorem w_X12_wouldBear_11 {E : gE} {d : Nat} {Q : gO → gS → Prop}   (hd : 3 ≤ d) (x1 : Int32) (s0 : Int32) (v : gV) (hp : p_X12_wouldBear_11   x1 s0 v) (hQ : gqIV Q (f_X12_wouldBear_11  x1 s0 v)) : gG E m_X12_wouldBear d Q 0 0 (rS v) 11 [(0, .ref (gX E + 559)), (1, .int x1)] [.int s0] := by
  refine g_if_le 18 dX12_wouldBear_11 (by decide) (fun h3 => ?_) (fun h3 => ?_)
  · have hQ := qp (P := gqIV Q) h3 hQ
    have hp := hp.1 h3
    refine g_aload_n 0 dX12_wouldBear_18 rfl ?_
    refine g_iload_n 1 dX12_wouldBear_19 rfl ?_
    obtain ⟨h4, hp⟩ := hp
    refine g_callV (rest := []) s_X12_158_X12 rfl (c_X12_bears (E := E) (d := d - 1)   (by omega) x1 v h4) (by decide : kd 559 = (0, 9)) (show 559 < 572 by decide) rfl rfl (Nat.le_of_ble_eq_true rfl) (by omega) (by decide) (by decide) dX12_wouldBear_20 (adV ?_) axN
    refine g_lv (lv' := []) [] rfl ?_
    exact w_X12_wouldBear_23  hd    ((f_X12_bears x1 v).1) (f_X12_bears x1 v).2 hp hQ
  · have hQ := qn (P := gqIV Q) h3 hQ
    have hp := hp.2 h3
    refine g_iconst dX12_wouldBear_14 (0 : Int32) (by decide) ?_
    refine g_goto 23 dX12_wouldBear_15 (by decide) ?_
    refine g_lv (lv' := []) [] rfl ?_
    exact w_X12_wouldBear_23  hd    (0 : Int32) v hp hQ
def f_X12_wouldBear_0  (x1 : Int32) (v : gV) : Int32 × gV := f_X12_wouldBear_11  x1 ((f_X12_checked (f_X12_in x1 (1 : Int32) (30 : Int32) v) v).1) (f_X12_checked (f_X12_in x1 (1 : Int32) (30 : Int32) v) v).2
def p_X12_wouldBear_0  (x1 : Int32) (v : gV) : Prop := (p_X12_in x1 (1 : Int32) (30 : Int32) v) ∧ ((p_X12_checked (f_X12_in x1 (1 : Int32) (30 : Int32) v) v) ∧ (p_X12_wouldBear_11   x1 ((f_X12_checked (f_X12_in x1 (1 : Int32) (30 : Int32) v) v).1) (f_X12_checked (f_X12_in x1 (1 : Int32) (30 : Int32) v) v).2))
set_option maxHeartbeats 4000000 in
set_option maxRecDepth 100000 in
theorem w_X12_wouldBear_0 {E : gE} {d : Nat} {Q : gO → gS → Prop}   (hd : 3 ≤ d) (x1 : Int32) (v : gV) (hp : p_X12_wouldBear_0   x1 v) (hQ : gqIV Q (f_X12_wouldBear_0  x1 v)) : gG E m_X12_wouldBear d Q 0 0 (rS v) 0 [(0, .ref (gX E + 559)), (1, .int x1)] [] := by
  refine g_aload_n 0 dX12_wouldBear_0 rfl ?_
  refine g_iload_n 1 dX12_wouldBear_1 rfl ?_
  refine g_iconst dX12_wouldBear_2 (1 : Int32) (by decide) ?_
  refine g_bipush dX12_wouldBear_3 (30 : Int32) (by decide) ?_
  obtain ⟨h1, hp⟩ := hp
  refine g_callS (rest := [.ref (gX E + 559)]) s_X12_83 rfl (c_X12_in (E := E) (d := d - 1)   (by omega) x1 (1 : Int32) (30 : Int32) v h1) rfl rfl (Nat.le_of_ble_eq_true rfl) (by omega) (by decide) (by decide) dX12_wouldBear_5 (adV ?_) axN
  obtain ⟨h2, hp⟩ := hp
  refine g_callV (rest := []) s_X12_213_X12 rfl (c_X12_checked (E := E) (d := d - 1)   (by omega) (f_X12_in x1 (1 : Int32) (30 : Int32) v) v h2) (by decide : kd 559 = (0, 9)) (show 559 < 572 by decide) rfl rfl (Nat.le_of_ble_eq_true rfl) (by omega) (by decide) (by decide) dX12_wouldBear_8 (adV ?_) axN
  exact w_X12_wouldBear_11  hd    x1 ((f_X12_checked (f_X12_in x1 (1 : Int32) (30 : Int32) v) v).1) (f_X12_checked (f_X12_in x1 (1 : Int32) (30 : Int32) v) v).2 hp hQ
def f_X12_wouldBear  (x1 : Int32) (v : gV) : Int32 × gV := f_X12_wouldBear_0 x1 v
def p_X12_wouldBear  (x1 : Int32) (v : gV) : Prop := p_X12_wouldBear_0 x1 v
theorem c_X12_wouldBear {E : gE} {d : Nat}   (hd : 3 ≤ d) (x1 : Int32) (v : gV) (hp : p_X12_wouldBear x1 v) : CT E m_X12_wouldBear d 0 0 [.ref (gX E + 559), .int x1] (rS v) (Cq (.inl (some (.int ((f_X12_wouldBear x1 v).1)))) (f_X12_wouldBear x1 v).2) := CT.of ok_X12_wouldBear rfl (Nat.le_of_ble_eq_true rfl) (w_X12_wouldBear_0  hd x1 v hp ⟨rfl, rfl⟩)
def f_X12_borne_5  (s0 : Int32) (v : gV) : Int32 × gV := (s0, v)
def p_X12_borne_5  (s0 : Int32) (v : gV) : Prop := True
set_option maxHeartbeats 4000000 in
set_option maxRecDepth 100000 in
theorem w_X12_borne_5 {E : gE} {d : Nat} {Q : gO → gS → Prop}   (hd : 4 ≤ d) (s0 : Int32) (v : gV) (hp : p_X12_borne_5   s0 v) (hQ : gqIV Q (f_X12_borne_5  s0 v)) : gG E m_X12_borne d Q 0 0 (rS v) 5 [] [.int s0] := by
  exact g_iret rfl dX12_borne_5 hQ
def f_X12_borne_0  (x1 : Int32) (v : gV) : Int32 × gV := f_X12_borne_5  ((f_X12_wouldBear x1 v).1) (f_X12_wouldBear x1 v).2
def p_X12_borne_0  (x1 : Int32) (v : gV) : Prop := (p_X12_wouldBear x1 v) ∧ (p_X12_borne_5   ((f_X12_wouldBear x1 v).1) (f_X12_wouldBear x1 v).2)
set_option maxHeartbeats 4000000 in
set_option maxRecDepth 100000 in
theorem w_X12_borne_0 {E : gE} {d : Nat} {Q : gO → gS → Prop}   (hd : 4 ≤ d) (x1 : Int32) (v : gV) (hp : p_X12_borne_0   x1 v) (hQ : gqIV Q (f_X12_borne_0  x1 v)) : gG E m_X12_borne d Q 0 0 (rS v) 0 [(0, .ref (gX E + 559)), (1, .int x1)] [] := by
  refine g_aload_n 0 dX12_borne_0 rfl ?_
  refine g_iload_n 1 dX12_borne_1 rfl ?_
  obtain ⟨h1, hp⟩ := hp
  refine g_callV (rest := []) s_X12_223_X12 rfl (c_X12_wouldBear (E := E) (d := d - 1)   (by omega) x1 v h1) (by decide : kd 559 = (0, 9)) (show 559 < 572 by decide) rfl rfl (Nat.le_of_ble_eq_true rfl) (by omega) (by decide) (by decide) dX12_borne_2 (adV ?_) axN
  refine g_lv (lv' := []) [] rfl ?_
  exact w_X12_borne_5  hd    ((f_X12_wouldBear x1 v).1) (f_X12_wouldBear x1 v).2 hp hQ
def f_X12_borne  (x1 : Int32) (v : gV) : Int32 × gV := f_X12_borne_0 x1 v
def p_X12_borne  (x1 : Int32) (v : gV) : Prop := p_X12_borne_0 x1 v
theorem c_X12_borne {E : gE} {d : Nat}   (hd : 4 ≤ d) (x1 : Int32) (v : gV) (hp : p_X12_borne x1 v) : CT E m_X12_borne d 0 0 [.ref (gX E + 559), .int x1] (rS v) (Cq (.inl (some (.int ((f_X12_borne x1 v).1)))) (f_X12_borne x1 v).2) := CT.of ok_X12_borne rfl (Nat.le_of_ble_eq_true rfl) (w_X12_borne_0  hd x1 v hp ⟨rfl, rfl⟩)
def f_X12_borneByCoins_5  (s0 : Int32) (v : gV) : Int32 × gV := (s0, v)
def p_X12_borneByCoins_5  (s0 : Int32) (v : gV) : Prop := True
set_option maxHeartbeats 4000000 in
set_option maxRecDepth 100000 in
theorem w_X12_borneByCoins_5 {E : gE} {d : Nat} {Q : gO → gS → Prop}   (hd : 4 ≤ d) (s0 : Int32) (v : gV) (hp : p_X12_borneByCoins_5   s0 v) (hQ : gqIV Q (f_X12_borneByCoins_5  s0 v)) : gG E m_X12_borneByCoins d Q 0 0 (rS v) 5 [] [.int s0] := by
  exact g_iret rfl dX12_borneByCoins_5 hQ
def f_X12_borneByCoins_0  (x1 : Int32) (v : gV) : Int32 × gV := f_X12_borneByCoins_5  ((f_X12_wouldBear x1 v).1) (f_X12_wouldBear x1 v).2
def p_X12_borneByCoins_0  (x1 : Int32) (v : gV) : Prop := (p_X12_wouldBear x1 v) ∧ (p_X12_borneByCoins_5   ((f_X12_wouldBear x1 v).1) (f_X12_wouldBear x1 v).2)
set_option maxHeartbeats 4000000 in
set_option maxRecDepth 100000 in
theorem w_X12_borneByCoins_0 {E : gE} {d : Nat} {Q : gO → gS → Prop}   (hd : 4 ≤ d) (x1 : Int32) (v : gV) (hp : p_X12_borneByCoins_0   x1 v) (hQ : gqIV Q (f_X12_borneByCoins_0  x1 v)) : gG E m_X12_borneByCoins d Q 0 0 (rS v) 0 [(0, .ref (gX E + 559)), (1, .int x1)] [] := by
  refine g_aload_n 0 dX12_borneByCoins_0 rfl ?_
  refine g_iload_n 1 dX12_borneByCoins_1 rfl ?_
  obtain ⟨h1, hp⟩ := hp
  refine g_callV (rest := []) s_X12_223_X12 rfl (c_X12_wouldBear (E := E) (d := d - 1)   (by omega) x1 v h1) (by decide : kd 559 = (0, 9)) (show 559 < 572 by decide) rfl rfl (Nat.le_of_ble_eq_true rfl) (by omega) (by decide) (by decide) dX12_borneByCoins_2 (adV ?_) axN
  refine g_lv (lv' := []) [] rfl ?_
  exact w_X12_borneByCoins_5  hd    ((f_X12_wouldBear x1 v).1) (f_X12_wouldBear x1 v).2 hp hQ
def f_X12_borneByCoins  (x1 : Int32) (v : gV) : Int32 × gV := f_X12_borneByCoins_0 x1 v
def p_X12_borneByCoins  (x1 : Int32) (v : gV) : Prop := p_X12_borneByCoins_0 x1 v
theorem c_X12_borneByCoins {E : gE} {d : Nat}   (hd : 4 ≤ d) (x1 : Int32) (v : gV) (hp : p_X12_borneByCoins x1 v) : CT E m_X12_borneByCoins d 0 0 [.ref (gX E + 559), .int x1] (rS v) (Cq (.inl (some (.int ((f_X12_borneByCoins x1 v).1)))) (f_X12_borneByCoins x1 v).2) := CT.of ok_X12_borneByCoins rfl (Nat.le_of_ble_eq_true rfl) (w_X12_borneByCoins_0  hd x1 v hp ⟨rfl, rfl⟩)
def f_X12_outcomes_35  (K9 : Int64 → Int32 → gV → Int64 × gV)  (x3 : Int32) (s0 : Int64) (s1 : Int64) (v : gV) : Int64 × gV := K9 (s1 * s0) (x3 + 1) v
def p_X12_outcomes_35  (K9 : Int64 → Int32 → gV → Int64 × gV)  (PK9 : Int64 → Int32 → gV → Prop)  (x3 : Int32) (s0 : Int64) (s1 : Int64) (v : gV) : Prop := PK9 (s1 * s0) (x3 + 1) v
set_option maxHeartbeats 4000000 in
set_option maxRecDepth 100000 in
theorem w_X12_outcomes_35 {E : gE} {d : Nat} {Q : gO → gS → Prop}   (hd : 2 ≤ d) (K9 : Int64 → Int32 → gV → Int64 × gV)  (PK9 : Int64 → Int32 → gV → Prop)  (hK9 : ∀ (x1 : Int64) (x3 : Int32) (v : gV), PK9 x1 x3 v → gqJV Q (K9 x1 x3 v) → gG E m_X12_outcomes d Q 0 0 (rS v) 9 [(0, .ref (gX E + 559)), (1, .long x1), (3, .int x3)] [])  (x3 : Int32) (s0 : Int64) (s1 : Int64) (v : gV) (hp : p_X12_outcomes_35 K9 PK9 x3 s0 s1 v) (hQ : gqJV Q (f_X12_outcomes_35 K9 x3 s0 s1 v)) : gG E m_X12_outcomes d Q 0 0 (rS v) 35 [(0, .ref (gX E + 559)), (3, .int x3)] [.long s0, .long s1] := by
  refine g_lmul dX12_outcomes_35 ?_
  refine g_lstore_n [(1, .long (s1 * s0)), (0, .ref (gX E + 559)), (3, .int x3)] dX12_outcomes_36 rfl (by decide) rfl ?_
  refine g_iinc 2 (x3 + 1) [(3, .int (x3 + 1)), (1, .long (s1 * s0)), (0, .ref (gX E + 559))] dX12_outcomes_37 rfl rfl (by decide) rfl ?_
  refine g_goto 9 dX12_outcomes_40 (by decide) ?_
  refine g_lv (lv' := [(0, .ref (gX E + 559)), (1, .long (s1 * s0)), (3, .int (x3 + 1))]) [2, 1, 0] rfl ?_
  exact hK9 (s1 * s0) (x3 + 1) v hp hQ
def f_X12_outcomes_9  : Nat → Int64 → Int32 → gV → Int64 × gV
  | 0, _, _, v => (0, v)
  | n + 1, x1, x3, v => if (v.1 560 (0 : Int32).toNatClampNeg) ≤ x3 then ((x1, v)) else (if (f_X12_isActiveAt x3 v) = 0 then (f_X12_outcomes_35 (fun x1 x3 v => f_X12_outcomes_9  n x1 x3 v) x3 (1 : Int64) x1 v) else (f_X12_outcomes_35 (fun x1 x3 v => f_X12_outcomes_9  n x1 x3 v) x3 (8 : Int64) x1 v))
def p_X12_outcomes_9  : Nat → Int64 → Int32 → gV → Prop
  | 0, _, _, _ => False
  | n + 1, x1, x3, v => (((v.1 560 (0 : Int32).toNatClampNeg) ≤ x3) → (True)) ∧ (¬ ((v.1 560 (0 : Int32).toNatClampNeg) ≤ x3) → ((p_X12_isActiveAt x3 v) ∧ ((((f_X12_isActiveAt x3 v) = 0) → (p_X12_outcomes_35 (fun x1 x3 v => f_X12_outcomes_9  n x1 x3 v) (fun x1 x3 v => p_X12_outcomes_9   n x1 x3 v) x3 (1 : Int64) x1 v)) ∧ (¬ ((f_X12_isActiveAt x3 v) = 0) → (p_X12_outcomes_35 (fun x1 x3 v => f_X12_outcomes_9  n x1 x3 v) (fun x1 x3 v => p_X12_outcomes_9   n x1 x3 v) x3 (8 : Int64) x1 v)))))
set_option maxHeartbeats 4000000 in
set_option maxRecDepth 100000 in
theorem w_X12_outcomes_9 {E : gE} {d : Nat} {Q : gO → gS → Prop}   (hd : 2 ≤ d) : ∀ (n : Nat) (x1 : Int64) (x3 : Int32) (v : gV), p_X12_outcomes_9   n x1 x3 v → gqJV Q (f_X12_outcomes_9  n x1 x3 v) → gG E m_X12_outcomes d Q 0 0 (rS v) 9 [(0, .ref (gX E + 559)), (1, .long x1), (3, .int x3)] [] := by
  intro n
  induction n with
  | zero => intro x1 x3 v hp; exact hp.elim
  | succ n ih =>
    intro x1 x3 v hp hQ
    refine g_iload_n 2 dX12_outcomes_9 rfl ?_
    refine g_aload_n 0 dX12_outcomes_10 rfl ?_
    refine r_get (.ref (gX E + 560)) f_X12_7_X12 rfl (by decide : kd 559 = (0, 9)) (show 559 < 572 by decide) dX12_outcomes_11 (fun _ => rfl) ?_
    refine g_iconst dX12_outcomes_14 (0 : Int32) (by decide) ?_
    refine g_iald (by decide : kd 560 = (1, 300)) (show 560 < 572 by decide) (show ¬ (_ ∨ _) by decide) dX12_outcomes_15 ?_
    refine g_icmp_ge 43 dX12_outcomes_16 (by decide) (fun h1 => ?_) (fun h1 => ?_)
    · have hQ := qp (P := gqJV Q) h1 hQ
      have hp := hp.1 h1
      refine g_lload_n 1 dX12_outcomes_43 rfl ?_
      exact g_lret rfl dX12_outcomes_44 hQ
    · have hQ := qn (P := gqJV Q) h1 hQ
      have hp := hp.2 h1
      refine g_lload_n 1 dX12_outcomes_19 rfl ?_
      refine g_aload_n 0 dX12_outcomes_20 rfl ?_
      refine g_iload_n 2 dX12_outcomes_21 rfl ?_
      obtain ⟨h2, hp⟩ := hp
      refine g_callV (rest := [.long x1]) s_X12_114_X12 rfl (c_X12_isActiveAt (E := E) (d := d - 1)   (by omega) x3 v h2) (by decide : kd 559 = (0, 9)) (show 559 < 572 by decide) rfl rfl (Nat.le_of_ble_eq_true rfl) (by omega) (by decide) (by decide) dX12_outcomes_22 (adV ?_) axN
      refine g_if_eq 34 dX12_outcomes_25 (by decide) (fun h3 => ?_) (fun h3 => ?_)
      · have hQ := qp (P := gqJV Q) h3 hQ
        have hp := hp.1 h3
        refine g_lconst dX12_outcomes_34 (1 : Int64) (by decide) ?_
        refine g_lv (lv' := [(0, .ref (gX E + 559)), (3, .int x3)]) [0, 2] rfl ?_
        exact w_X12_outcomes_35  hd (fun x1 x3 v => f_X12_outcomes_9  n x1 x3 v) (fun x1 x3 v => p_X12_outcomes_9   n x1 x3 v) ih x3 (1 : Int64) x1 v hp hQ
      · have hQ := qn (P := gqJV Q) h3 hQ
        have hp := hp.2 h3
        refine r_ldc2 (8 : Int64) k_X12_226 rfl dX12_outcomes_28 ?_
        refine g_goto 35 dX12_outcomes_31 (by decide) ?_
        refine g_lv (lv' := [(0, .ref (gX E + 559)), (3, .int x3)]) [0, 2] rfl ?_
        exact w_X12_outcomes_35  hd (fun x1 x3 v => f_X12_outcomes_9  n x1 x3 v) (fun x1 x3 v => p_X12_outcomes_9   n x1 x3 v) ih x3 (8 : Int64) x1 v hp hQ
def f_X12_outcomes_5   (v : gV) : Int64 × gV := f_X12_outcomes_9  5000 (1 : Int64) (0 : Int32) v
def p_X12_outcomes_5   (v : gV) : Prop := p_X12_outcomes_9   5000 (1 : Int64) (0 : Int32) v
set_option maxHeartbeats 4000000 in
set_option maxRecDepth 100000 in
theorem w_X12_outcomes_5 {E : gE} {d : Nat} {Q : gO → gS → Prop}   (hd : 2 ≤ d)  (v : gV) (hp : p_X12_outcomes_5    v) (hQ : gqJV Q (f_X12_outcomes_5   v)) : gG E m_X12_outcomes d Q 0 0 (rS v) 5 [(0, .ref (gX E + 559))] [] := by
  refine g_lconst dX12_outcomes_5 (1 : Int64) (by decide) ?_
  refine g_lstore_n [(1, .long ((1 : Int64))), (0, .ref (gX E + 559))] dX12_outcomes_6 rfl (by decide) rfl ?_
  refine g_iconst dX12_outcomes_7 (0 : Int32) (by decide) ?_
  refine g_istore_n [(3, .int ((0 : Int32))), (1, .long ((1 : Int64))), (0, .ref (gX E + 559))] dX12_outcomes_8 rfl (by decide) rfl ?_
  refine g_lv (lv' := [(0, .ref (gX E + 559)), (1, .long ((1 : Int64))), (3, .int ((0 : Int32)))]) [2, 1, 0] rfl ?_
  exact w_X12_outcomes_9  hd    5000 (1 : Int64) (0 : Int32) v hp hQ
def f_X12_outcomes_0   (v : gV) : Int64 × gV := f_X12_outcomes_5   (vM v 559 6 (0 : Int32))
def p_X12_outcomes_0   (v : gV) : Prop := p_X12_outcomes_5    (vM v 559 6 (0 : Int32))
set_option maxHeartbeats 4000000 in
set_option maxRecDepth 100000 in
theorem w_X12_outcomes_0 {E : gE} {d : Nat} {Q : gO → gS → Prop}   (hd : 2 ≤ d)  (v : gV) (hp : p_X12_outcomes_0    v) (hQ : gqJV Q (f_X12_outcomes_0   v)) : gG E m_X12_outcomes d Q 0 0 (rS v) 0 [(0, .ref (gX E + 559))] [] := by
  refine g_aload_n 0 dX12_outcomes_0 rfl ?_
  refine g_iconst dX12_outcomes_1 (0 : Int32) (by decide) ?_
  refine r_put pf_X12_28_X12 rfl (by decide : kd 559 = (0, 9)) (by decide) (by decide) rfl (show 559 < 572 by decide) rfl rfl dX12_outcomes_2 ?_
  exact w_X12_outcomes_5  hd     (vM v 559 6 (0 : Int32)) hp hQ
def f_X12_outcomes   (v : gV) : Int64 × gV := f_X12_outcomes_0  v
def p_X12_outcomes   (v : gV) : Prop := p_X12_outcomes_0  v
theorem c_X12_outcomes {E : gE} {d : Nat}   (hd : 2 ≤ d)  (v : gV) (hp : p_X12_outcomes  v) : CT E m_X12_outcomes d 0 0 [.ref (gX E + 559)] (rS v) (Cq (.inl (some (.long ((f_X12_outcomes  v).1)))) (f_X12_outcomes  v).2) := CT.of ok_X12_outcomes rfl (Nat.le_of_ble_eq_true rfl) (w_X12_outcomes_0  hd  v hp ⟨rfl, rfl⟩)
def f_X12_soaking_88  (K5 : Int32 → Int64 → Int32 → gV → Int64)  (x1 : Int32) (x2 : Int64) (x4 : Int32) (v : gV) : Int64 := K5 x1 x2 (x4 + 1) v
def p_X12_soaking_88  (K5 : Int32 → Int64 → Int32 → gV → Int64)  (PK5 : Int32 → Int64 → Int32 → gV → Prop)  (x1 : Int32) (x2 : Int64) (x4 : Int32) (v : gV) : Prop := PK5 x1 x2 (x4 + 1) v
set_option maxHeartbeats 4000000 in
set_option maxRecDepth 100000 in
theorem w_X12_soaking_88 {E : gE} {d : Nat} {Q : gO → gS → Prop}   (hd : 2 ≤ d) (K5 : Int32 → Int64 → Int32 → gV → Int64)  (PK5 : Int32 → Int64 → Int32 → gV → Prop)  (hK5 : ∀ (x1 : Int32) (x2 : Int64) (x4 : Int32) (v : gV), PK5 x1 x2 x4 v → gqJ Q v (K5 x1 x2 x4 v) → gG E m_X12_soaking d Q 0 0 (rS v) 5 [(0, .ref (gX E + 559)), (1, .int x1), (2, .long x2), (4, .int x4)] [])  (x1 : Int32) (x2 : Int64) (x4 : Int32) (v : gV) (hp : p_X12_soaking_88 K5 PK5 x1 x2 x4 v) (hQ : gqJ Q v (f_X12_soaking_88 K5 x1 x2 x4 v)) : gG E m_X12_soaking d Q 0 0 (rS v) 88 [(0, .ref (gX E + 559)), (1, .int x1), (2, .long x2), (4, .int x4)] [] := by
  refine g_iinc 3 (x4 + 1) [(4, .int (x4 + 1)), (0, .ref (gX E + 559)), (1, .int x1), (2, .long x2)] dX12_soaking_88 rfl rfl (by decide) rfl ?_
  refine g_goto 5 dX12_soaking_91 (by decide) ?_
  refine g_lv (lv' := [(0, .ref (gX E + 559)), (1, .int x1), (2, .long x2), (4, .int (x4 + 1))]) [1, 2, 3, 0] rfl ?_
  exact hK5 x1 x2 (x4 + 1) v hp hQ
def f_X12_soaking_86  (K5 : Int32 → Int64 → Int32 → gV → Int64)  (x1 : Int32) (x4 : Int32) (s0 : Int64) (s1 : Int64) (v : gV) : Int64 := f_X12_soaking_88 K5 x1 (s1 * s0) x4 v
def p_X12_soaking_86  (K5 : Int32 → Int64 → Int32 → gV → Int64)  (PK5 : Int32 → Int64 → Int32 → gV → Prop)  (x1 : Int32) (x4 : Int32) (s0 : Int64) (s1 : Int64) (v : gV) : Prop := p_X12_soaking_88 K5 PK5 x1 (s1 * s0) x4 v
set_option maxHeartbeats 4000000 in
set_option maxRecDepth 100000 in
theorem w_X12_soaking_86 {E : gE} {d : Nat} {Q : gO → gS → Prop}   (hd : 2 ≤ d) (K5 : Int32 → Int64 → Int32 → gV → Int64)  (PK5 : Int32 → Int64 → Int32 → gV → Prop)  (hK5 : ∀ (x1 : Int32) (x2 : Int64) (x4 : Int32) (v : gV), PK5 x1 x2 x4 v → gqJ Q v (K5 x1 x2 x4 v) → gG E m_X12_soaking d Q 0 0 (rS v) 5 [(0, .ref (gX E + 559)), (1, .int x1), (2, .long x2), (4, .int x4)] [])  (x1 : Int32) (x4 : Int32) (s0 : Int64) (s1 : Int64) (v : gV) (hp : p_X12_soaking_86 K5 PK5 x1 x4 s0 s1 v) (hQ : gqJ Q v (f_X12_soaking_86 K5 x1 x4 s0 s1 v)) : gG E m_X12_soaking d Q 0 0 (rS v) 86 [(0, .ref (gX E + 559)), (1, .int x1), (4, .int x4)] [.long s0, .long s1] := by
  refine g_lmul dX12_soaking_86 ?_
  refine g_lstore_n [(2, .long (s1 * s0)), (0, .ref (gX E + 559)), (1, .int x1), (4, .int x4)] dX12_soaking_87 rfl (by decide) rfl ?_
  refine g_lv (lv' := [(0, .ref (gX E + 559)), (1, .int x1), (2, .long (s1 * s0)), (4, .int x4)]) [1, 2, 0, 3] rfl ?_
  exact w_X12_soaking_88  hd K5 PK5 hK5 x1 (s1 * s0) x4 v hp hQ
def f_X12_soaking_70  (K5 : Int32 → Int64 → Int32 → gV → Int64)  (x1 : Int32) (x4 : Int32) (s0 : Int64) (s1 : Int64) (v : gV) : Int64 := f_X12_soaking_88 K5 x1 (s1 * s0) x4 v
def p_X12_soaking_70  (K5 : Int32 → Int64 → Int32 → gV → Int64)  (PK5 : Int32 → Int64 → Int32 → gV → Prop)  (x1 : Int32) (x4 : Int32) (s0 : Int64) (s1 : Int64) (v : gV) : Prop := p_X12_soaking_88 K5 PK5 x1 (s1 * s0) x4 v
set_option maxHeartbeats 4000000 in
set_option maxRecDepth 100000 in
theorem w_X12_soaking_70 {E : gE} {d : Nat} {Q : gO → gS → Prop}   (hd : 2 ≤ d) (K5 : Int32 → Int64 → Int32 → gV → Int64)  (PK5 : Int32 → Int64 → Int32 → gV → Prop)  (hK5 : ∀ (x1 : Int32) (x2 : Int64) (x4 : Int32) (v : gV), PK5 x1 x2 x4 v → gqJ Q v (K5 x1 x2 x4 v) → gG E m_X12_soaking d Q 0 0 (rS v) 5 [(0, .ref (gX E + 559)), (1, .int x1), (2, .long x2), (4, .int x4)] [])  (x1 : Int32) (x4 : Int32) (s0 : Int64) (s1 : Int64) (v : gV) (hp : p_X12_soaking_70 K5 PK5 x1 x4 s0 s1 v) (hQ : gqJ Q v (f_X12_soaking_70 K5 x1 x4 s0 s1 v)) : gG E m_X12_soaking d Q 0 0 (rS v) 70 [(0, .ref (gX E + 559)), (1, .int x1), (4, .int x4)] [.long s0, .long s1] := by
  refine g_lmul dX12_soaking_70 ?_
  refine g_lstore_n [(2, .long (s1 * s0)), (0, .ref (gX E + 559)), (1, .int x1), (4, .int x4)] dX12_soaking_71 rfl (by decide) rfl ?_
  refine g_goto 88 dX12_soaking_72 (by decide) ?_
  refine g_lv (lv' := [(0, .ref (gX E + 559)), (1, .int x1), (2, .long (s1 * s0)), (4, .int x4)]) [1, 2, 0, 3] rfl ?_
  exact w_X12_soaking_88  hd K5 PK5 hK5 x1 (s1 * s0) x4 v hp hQ
def f_X12_soaking_31  (K5 : Int32 → Int64 → Int32 → gV → Int64)  (x1 : Int32) (x2 : Int64) (x4 : Int32) (s0 : Int32) (v : gV) : Int64 := if (f_X12_isActiveAt x4 v) = 0 then (if s0 = 0 then (f_X12_soaking_86 K5 x1 x4 (1 : Int64) x2 v) else (f_X12_soaking_86 K5 x1 x4 (0 : Int64) x2 v)) else (if s0 = 0 then (f_X12_soaking_70 K5 x1 x4 (((8 : Int32) - (f_X12_p x4 (2 : Int32) v)).toInt64) x2 v) else (f_X12_soaking_70 K5 x1 x4 ((f_X12_p x4 (2 : Int32) v).toInt64) x2 v))
def p_X12_soaking_31  (K5 : Int32 → Int64 → Int32 → gV → Int64)  (PK5 : Int32 → Int64 → Int32 → gV → Prop)  (x1 : Int32) (x2 : Int64) (x4 : Int32) (s0 : Int32) (v : gV) : Prop := (p_X12_isActiveAt x4 v) ∧ ((((f_X12_isActiveAt x4 v) = 0) → (((s0 = 0) → (p_X12_soaking_86 K5 PK5 x1 x4 (1 : Int64) x2 v)) ∧ (¬ (s0 = 0) → (p_X12_soaking_86 K5 PK5 x1 x4 (0 : Int64) x2 v)))) ∧ (¬ ((f_X12_isActiveAt x4 v) = 0) → (((s0 = 0) → ((p_X12_p x4 (2 : Int32) v) ∧ (p_X12_soaking_70 K5 PK5 x1 x4 (((8 : Int32) - (f_X12_p x4 (2 : Int32) v)).toInt64) x2 v))) ∧ (¬ (s0 = 0) → ((p_X12_p x4 (2 : Int32) v) ∧ (p_X12_soaking_70 K5 PK5 x1 x4 ((f_X12_p x4 (2 : Int32) v).toInt64) x2 v))))))
set_option maxHeartbeats 4000000 in
set_option maxRecDepth 100000 in
theorem w_X12_soaking_31 {E : gE} {d : Nat} {Q : gO → gS → Prop}   (hd : 2 ≤ d) (K5 : Int32 → Int64 → Int32 → gV → Int64)  (PK5 : Int32 → Int64 → Int32 → gV → Prop)  (hK5 : ∀ (x1 : Int32) (x2 : Int64) (x4 : Int32) (v : gV), PK5 x1 x2 x4 v → gqJ Q v (K5 x1 x2 x4 v) → gG E m_X12_soaking d Q 0 0 (rS v) 5 [(0, .ref (gX E + 559)), (1, .int x1), (2, .long x2), (4, .int x4)] [])  (x1 : Int32) (x2 : Int64) (x4 : Int32) (s0 : Int32) (v : gV) (hp : p_X12_soaking_31 K5 PK5 x1 x2 x4 s0 v) (hQ : gqJ Q v (f_X12_soaking_31 K5 x1 x2 x4 s0 v)) : gG E m_X12_soaking d Q 0 0 (rS v) 31 [(0, .ref (gX E + 559)), (1, .int x1), (2, .long x2), (4, .int x4)] [.int s0] := by
  refine g_istore [(5, .int s0), (0, .ref (gX E + 559)), (1, .int x1), (2, .long x2), (4, .int x4)] dX12_soaking_31 (by decide) rfl ?_
  refine g_aload_n 1 dX12_soaking_33 rfl ?_
  refine g_iload 4 dX12_soaking_34 rfl ?_
  obtain ⟨h3, hp⟩ := hp
  refine g_callV (rest := []) s_X12_114_X12 rfl (c_X12_isActiveAt (E := E) (d := d - 1)   (by omega) x4 v h3) (by decide : kd 559 = (0, 9)) (show 559 < 572 by decide) rfl rfl (Nat.le_of_ble_eq_true rfl) (by omega) (by decide) (by decide) dX12_soaking_36 (adV ?_) axN
  refine g_if_eq 75 dX12_soaking_39 (by decide) (fun h4 => ?_) (fun h4 => ?_)
  · have hQ := qp (P := gqJ Q v) h4 hQ
    have hp := hp.1 h4
    refine g_lload_n 3 dX12_soaking_75 rfl ?_
    refine g_iload 0 dX12_soaking_76 rfl ?_
    refine g_if_eq 85 dX12_soaking_78 (by decide) (fun h5 => ?_) (fun h5 => ?_)
    · have hQ := qp (P := gqJ Q v) h5 hQ
      have hp := hp.1 h5
      refine g_lconst dX12_soaking_85 (1 : Int64) (by decide) ?_
      refine g_lv (lv' := [(0, .ref (gX E + 559)), (1, .int x1), (4, .int x4)]) [1, 2, 4] rfl ?_
      exact w_X12_soaking_86  hd K5 PK5 hK5 x1 x4 (1 : Int64) x2 v hp hQ
    · have hQ := qn (P := gqJ Q v) h5 hQ
      have hp := hp.2 h5
      refine g_lconst dX12_soaking_81 (0 : Int64) (by decide) ?_
      refine g_goto 86 dX12_soaking_82 (by decide) ?_
      refine g_lv (lv' := [(0, .ref (gX E + 559)), (1, .int x1), (4, .int x4)]) [1, 2, 4] rfl ?_
      exact w_X12_soaking_86  hd K5 PK5 hK5 x1 x4 (0 : Int64) x2 v hp hQ
  · have hQ := qn (P := gqJ Q v) h4 hQ
    have hp := hp.2 h4
    refine g_lload_n 3 dX12_soaking_42 rfl ?_
    refine g_iload 0 dX12_soaking_43 rfl ?_
    refine g_if_eq 59 dX12_soaking_45 (by decide) (fun h6 => ?_) (fun h6 => ?_)
    · have hQ := qp (P := gqJ Q v) h6 hQ
      have hp := hp.1 h6
      refine g_bipush dX12_soaking_59 (8 : Int32) (by decide) ?_
      refine g_aload_n 1 dX12_soaking_61 rfl ?_
      refine g_iload 4 dX12_soaking_62 rfl ?_
      refine g_iconst dX12_soaking_64 (2 : Int32) (by decide) ?_
      obtain ⟨h7, hp⟩ := hp
      refine g_callV (rest := [.int ((8 : Int32)), .long x2]) s_X12_79_X12 rfl (c_X12_p (E := E) (d := d - 1)   (by omega) x4 (2 : Int32) v h7) (by decide : kd 559 = (0, 9)) (show 559 < 572 by decide) rfl rfl (Nat.le_of_ble_eq_true rfl) (by omega) (by decide) (by decide) dX12_soaking_65 (adV ?_) axN
      refine g_isub dX12_soaking_68 ?_
      refine g_i2l dX12_soaking_69 ?_
      refine g_lv (lv' := [(0, .ref (gX E + 559)), (1, .int x1), (4, .int x4)]) [1, 2, 4] rfl ?_
      exact w_X12_soaking_70  hd K5 PK5 hK5 x1 x4 (((8 : Int32) - (f_X12_p x4 (2 : Int32) v)).toInt64) x2 v hp hQ
    · have hQ := qn (P := gqJ Q v) h6 hQ
      have hp := hp.2 h6
      refine g_aload_n 1 dX12_soaking_48 rfl ?_
      refine g_iload 4 dX12_soaking_49 rfl ?_
      refine g_iconst dX12_soaking_51 (2 : Int32) (by decide) ?_
      obtain ⟨h8, hp⟩ := hp
      refine g_callV (rest := [.long x2]) s_X12_79_X12 rfl (c_X12_p (E := E) (d := d - 1)   (by omega) x4 (2 : Int32) v h8) (by decide : kd 559 = (0, 9)) (show 559 < 572 by decide) rfl rfl (Nat.le_of_ble_eq_true rfl) (by omega) (by decide) (by decide) dX12_soaking_52 (adV ?_) axN
      refine g_i2l dX12_soaking_55 ?_
      refine g_goto 70 dX12_soaking_56 (by decide) ?_
      refine g_lv (lv' := [(0, .ref (gX E + 559)), (1, .int x1), (4, .int x4)]) [1, 2, 4] rfl ?_
      exact w_X12_soaking_70  hd K5 PK5 hK5 x1 x4 ((f_X12_p x4 (2 : Int32) v).toInt64) x2 v hp hQ
def f_X12_soaking_5  : Nat → Int32 → Int64 → Int32 → gV → Int64
  | 0, _, _, _, v => 0
  | n + 1, x1, x2, x4, v => if (v.1 560 (0 : Int32).toNatClampNeg) ≤ x4 then x2 else (if ((x1 >>> (x4 &&& 31)) &&& (1 : Int32)) = (1 : Int32) then (f_X12_soaking_31 (fun x1 x2 x4 v => f_X12_soaking_5  n x1 x2 x4 v) x1 x2 x4 (1 : Int32) v) else (f_X12_soaking_31 (fun x1 x2 x4 v => f_X12_soaking_5  n x1 x2 x4 v) x1 x2 x4 (0 : Int32) v))
def p_X12_soaking_5  : Nat → Int32 → Int64 → Int32 → gV → Prop
  | 0, _, _, _, _ => False
  | n + 1, x1, x2, x4, v => (((v.1 560 (0 : Int32).toNatClampNeg) ≤ x4) → (True)) ∧ (¬ ((v.1 560 (0 : Int32).toNatClampNeg) ≤ x4) → (((((x1 >>> (x4 &&& 31)) &&& (1 : Int32)) = (1 : Int32)) → (p_X12_soaking_31 (fun x1 x2 x4 v => f_X12_soaking_5  n x1 x2 x4 v) (fun x1 x2 x4 v => p_X12_soaking_5   n x1 x2 x4 v) x1 x2 x4 (1 : Int32) v)) ∧ (¬ (((x1 >>> (x4 &&& 31)) &&& (1 : Int32)) = (1 : Int32)) → (p_X12_soaking_31 (fun x1 x2 x4 v => f_X12_soaking_5  n x1 x2 x4 v) (fun x1 x2 x4 v => p_X12_soaking_5   n x1 x2 x4 v) x1 x2 x4 (0 : Int32) v))))
set_option maxHeartbeats 4000000 in
set_option maxRecDepth 100000 in
theorem w_X12_soaking_5 {E : gE} {d : Nat} {Q : gO → gS → Prop}   (hd : 2 ≤ d) : ∀ (n : Nat) (x1 : Int32) (x2 : Int64) (x4 : Int32) (v : gV), p_X12_soaking_5   n x1 x2 x4 v → gqJ Q v (f_X12_soaking_5  n x1 x2 x4 v) → gG E m_X12_soaking d Q 0 0 (rS v) 5 [(0, .ref (gX E + 559)), (1, .int x1), (2, .long x2), (4, .int x4)] [] := by
  intro n
  induction n with
  | zero => intro x1 x2 x4 v hp; exact hp.elim
  | succ n ih =>
    intro x1 x2 x4 v hp hQ
    refine g_iload 3 dX12_soaking_5 rfl ?_
    refine g_aload_n 0 dX12_soaking_7 rfl ?_
    refine r_get (.ref (gX E + 560)) f_X12_7_X12 rfl (by decide : kd 559 = (0, 9)) (show 559 < 572 by decide) dX12_soaking_8 (fun _ => rfl) ?_
    refine g_iconst dX12_soaking_11 (0 : Int32) (by decide) ?_
    refine g_iald (by decide : kd 560 = (1, 300)) (show 560 < 572 by decide) (show ¬ (_ ∨ _) by decide) dX12_soaking_12 ?_
    refine g_icmp_ge 94 dX12_soaking_13 (by decide) (fun h1 => ?_) (fun h1 => ?_)
    · have hQ := qp (P := gqJ Q v) h1 hQ
      have hp := hp.1 h1
      refine g_lload_n 2 dX12_soaking_94 rfl ?_
      exact g_lret rfl dX12_soaking_95 hQ
    · have hQ := qn (P := gqJ Q v) h1 hQ
      have hp := hp.2 h1
      refine g_iload_n 1 dX12_soaking_16 rfl ?_
      refine g_iload 3 dX12_soaking_17 rfl ?_
      refine g_ishr dX12_soaking_19 ?_
      refine g_iconst dX12_soaking_20 (1 : Int32) (by decide) ?_
      refine g_iand dX12_soaking_21 ?_
      refine g_iconst dX12_soaking_22 (1 : Int32) (by decide) ?_
      refine g_icmp_ne 30 dX12_soaking_23 (by decide) (fun h2 => ?_) (fun h2 => ?_)
      · have hQ := qn (P := gqJ Q v) h2 hQ
        have hp := hp.2 h2
        refine g_iconst dX12_soaking_30 (0 : Int32) (by decide) ?_
        exact w_X12_soaking_31  hd (fun x1 x2 x4 v => f_X12_soaking_5  n x1 x2 x4 v) (fun x1 x2 x4 v => p_X12_soaking_5   n x1 x2 x4 v) ih x1 x2 x4 (0 : Int32) v hp hQ
      · have hQ := qp (P := gqJ Q v) h2 hQ
        have hp := hp.1 h2
        refine g_iconst dX12_soaking_26 (1 : Int32) (by decide) ?_
        refine g_goto 31 dX12_soaking_27 (by decide) ?_
        exact w_X12_soaking_31  hd (fun x1 x2 x4 v => f_X12_soaking_5  n x1 x2 x4 v) (fun x1 x2 x4 v => p_X12_soaking_5   n x1 x2 x4 v) ih x1 x2 x4 (1 : Int32) v hp hQ
def f_X12_soaking_0  (x1 : Int32) (v : gV) : Int64 := f_X12_soaking_5  5000 x1 (1 : Int64) (0 : Int32) v
def p_X12_soaking_0  (x1 : Int32) (v : gV) : Prop := p_X12_soaking_5   5000 x1 (1 : Int64) (0 : Int32) v
set_option maxHeartbeats 4000000 in
set_option maxRecDepth 100000 in
theorem w_X12_soaking_0 {E : gE} {d : Nat} {Q : gO → gS → Prop}   (hd : 2 ≤ d) (x1 : Int32) (v : gV) (hp : p_X12_soaking_0   x1 v) (hQ : gqJ Q v (f_X12_soaking_0  x1 v)) : gG E m_X12_soaking d Q 0 0 (rS v) 0 [(0, .ref (gX E + 559)), (1, .int x1)] [] := by
  refine g_lconst dX12_soaking_0 (1 : Int64) (by decide) ?_
  refine g_lstore_n [(2, .long ((1 : Int64))), (0, .ref (gX E + 559)), (1, .int x1)] dX12_soaking_1 rfl (by decide) rfl ?_
  refine g_iconst dX12_soaking_2 (0 : Int32) (by decide) ?_
  refine g_istore [(4, .int ((0 : Int32))), (2, .long ((1 : Int64))), (0, .ref (gX E + 559)), (1, .int x1)] dX12_soaking_3 (by decide) rfl ?_
  refine g_lv (lv' := [(0, .ref (gX E + 559)), (1, .int x1), (2, .long ((1 : Int64))), (4, .int ((0 : Int32)))]) [2, 3, 1, 0] rfl ?_
  exact w_X12_soaking_5  hd    5000 x1 (1 : Int64) (0 : Int32) v hp hQ
def f_X12_soaking  (x1 : Int32) (v : gV) : Int64 := f_X12_soaking_0 x1 v
def p_X12_soaking  (x1 : Int32) (v : gV) : Prop := p_X12_soaking_0 x1 v
theorem c_X12_soaking {E : gE} {d : Nat}   (hd : 2 ≤ d) (x1 : Int32) (v : gV) (hp : p_X12_soaking x1 v) : CT E m_X12_soaking d 0 0 [.ref (gX E + 559), .int x1] (rS v) (Cq (.inl (some (.long (f_X12_soaking x1 v)))) v) := CT.of ok_X12_soaking rfl (Nat.le_of_ble_eq_true rfl) (w_X12_soaking_0  hd x1 v hp ⟨rfl, rfl⟩)
def f_X12_lossOf_4  : Nat → Int32 → Int32 → Int32 → gV → Int32
  | 0, _, _, _, v => 0
  | n + 1, x1, x2, x3, v => if (v.1 560 (0 : Int32).toNatClampNeg) ≤ x3 then x2 else (f_X12_lossOf_4  n x1 (x2 + (((x1 >>> (x3 &&& 31)) &&& (1 : Int32)) * (f_X12_p x3 (1 : Int32) v))) (x3 + 1) v)
def p_X12_lossOf_4  : Nat → Int32 → Int32 → Int32 → gV → Prop
  | 0, _, _, _, _ => False
  | n + 1, x1, x2, x3, v => (((v.1 560 (0 : Int32).toNatClampNeg) ≤ x3) → (True)) ∧ (¬ ((v.1 560 (0 : Int32).toNatClampNeg) ≤ x3) → ((p_X12_p x3 (1 : Int32) v) ∧ (p_X12_lossOf_4   n x1 (x2 + (((x1 >>> (x3 &&& 31)) &&& (1 : Int32)) * (f_X12_p x3 (1 : Int32) v))) (x3 + 1) v)))
set_option maxHeartbeats 4000000 in
set_option maxRecDepth 100000 in
theorem w_X12_lossOf_4 {E : gE} {d : Nat} {Q : gO → gS → Prop}   (hd : 1 ≤ d) : ∀ (n : Nat) (x1 : Int32) (x2 : Int32) (x3 : Int32) (v : gV), p_X12_lossOf_4   n x1 x2 x3 v → gqI Q v (f_X12_lossOf_4  n x1 x2 x3 v) → gG E m_X12_lossOf d Q 0 0 (rS v) 4 [(0, .ref (gX E + 559)), (1, .int x1), (2, .int x2), (3, .int x3)] [] := by
  intro n
  induction n with
  | zero => intro x1 x2 x3 v hp; exact hp.elim
  | succ n ih =>
    intro x1 x2 x3 v hp hQ
    refine g_iload_n 3 dX12_lossOf_4 rfl ?_
    refine g_aload_n 0 dX12_lossOf_5 rfl ?_
    refine r_get (.ref (gX E + 560)) f_X12_7_X12 rfl (by decide : kd 559 = (0, 9)) (show 559 < 572 by decide) dX12_lossOf_6 (fun _ => rfl) ?_
    refine g_iconst dX12_lossOf_9 (0 : Int32) (by decide) ?_
    refine g_iald (by decide : kd 560 = (1, 300)) (show 560 < 572 by decide) (show ¬ (_ ∨ _) by decide) dX12_lossOf_10 ?_
    refine g_icmp_ge 35 dX12_lossOf_11 (by decide) (fun h1 => ?_) (fun h1 => ?_)
    · have hQ := qp (P := gqI Q v) h1 hQ
      have hp := hp.1 h1
      refine g_iload_n 2 dX12_lossOf_35 rfl ?_
      exact g_iret rfl dX12_lossOf_36 hQ
    · have hQ := qn (P := gqI Q v) h1 hQ
      have hp := hp.2 h1
      refine g_iload_n 2 dX12_lossOf_14 rfl ?_
      refine g_iload_n 1 dX12_lossOf_15 rfl ?_
      refine g_iload_n 3 dX12_lossOf_16 rfl ?_
      refine g_ishr dX12_lossOf_17 ?_
      refine g_iconst dX12_lossOf_18 (1 : Int32) (by decide) ?_
      refine g_iand dX12_lossOf_19 ?_
      refine g_aload_n 0 dX12_lossOf_20 rfl ?_
      refine g_iload_n 3 dX12_lossOf_21 rfl ?_
      refine g_iconst dX12_lossOf_22 (1 : Int32) (by decide) ?_
      obtain ⟨h2, hp⟩ := hp
      refine g_callV (rest := [.int ((x1 >>> (x3 &&& 31)) &&& (1 : Int32)), .int x2]) s_X12_79_X12 rfl (c_X12_p (E := E) (d := d - 1)   (by omega) x3 (1 : Int32) v h2) (by decide : kd 559 = (0, 9)) (show 559 < 572 by decide) rfl rfl (Nat.le_of_ble_eq_true rfl) (by omega) (by decide) (by decide) dX12_lossOf_23 (adV ?_) axN
      refine g_imul dX12_lossOf_26 ?_
      refine g_iadd dX12_lossOf_27 ?_
      refine g_istore_n [(2, .int (x2 + (((x1 >>> (x3 &&& 31)) &&& (1 : Int32)) * (f_X12_p x3 (1 : Int32) v)))), (0, .ref (gX E + 559)), (1, .int x1), (3, .int x3)] dX12_lossOf_28 rfl (by decide) rfl ?_
      refine g_iinc 3 (x3 + 1) [(3, .int (x3 + 1)), (2, .int (x2 + (((x1 >>> (x3 &&& 31)) &&& (1 : Int32)) * (f_X12_p x3 (1 : Int32) v)))), (0, .ref (gX E + 559)), (1, .int x1)] dX12_lossOf_29 rfl rfl (by decide) rfl ?_
      refine g_goto 4 dX12_lossOf_32 (by decide) ?_
      refine g_lv (lv' := [(0, .ref (gX E + 559)), (1, .int x1), (2, .int (x2 + (((x1 >>> (x3 &&& 31)) &&& (1 : Int32)) * (f_X12_p x3 (1 : Int32) v)))), (3, .int (x3 + 1))]) [2, 3, 1, 0] rfl ?_
      exact ih x1 (x2 + (((x1 >>> (x3 &&& 31)) &&& (1 : Int32)) * (f_X12_p x3 (1 : Int32) v))) (x3 + 1) v hp hQ
def f_X12_lossOf_0  (x1 : Int32) (v : gV) : Int32 := f_X12_lossOf_4  5000 x1 (0 : Int32) (0 : Int32) v
def p_X12_lossOf_0  (x1 : Int32) (v : gV) : Prop := p_X12_lossOf_4   5000 x1 (0 : Int32) (0 : Int32) v
set_option maxHeartbeats 4000000 in
set_option maxRecDepth 100000 in
theorem w_X12_lossOf_0 {E : gE} {d : Nat} {Q : gO → gS → Prop}   (hd : 1 ≤ d) (x1 : Int32) (v : gV) (hp : p_X12_lossOf_0   x1 v) (hQ : gqI Q v (f_X12_lossOf_0  x1 v)) : gG E m_X12_lossOf d Q 0 0 (rS v) 0 [(0, .ref (gX E + 559)), (1, .int x1)] [] := by
  refine g_iconst dX12_lossOf_0 (0 : Int32) (by decide) ?_
  refine g_istore_n [(2, .int ((0 : Int32))), (0, .ref (gX E + 559)), (1, .int x1)] dX12_lossOf_1 rfl (by decide) rfl ?_
  refine g_iconst dX12_lossOf_2 (0 : Int32) (by decide) ?_
  refine g_istore_n [(3, .int ((0 : Int32))), (2, .int ((0 : Int32))), (0, .ref (gX E + 559)), (1, .int x1)] dX12_lossOf_3 rfl (by decide) rfl ?_
  refine g_lv (lv' := [(0, .ref (gX E + 559)), (1, .int x1), (2, .int ((0 : Int32))), (3, .int ((0 : Int32)))]) [2, 3, 1, 0] rfl ?_
  exact w_X12_lossOf_4  hd    5000 x1 (0 : Int32) (0 : Int32) v hp hQ
def f_X12_lossOf  (x1 : Int32) (v : gV) : Int32 := f_X12_lossOf_0 x1 v
def p_X12_lossOf  (x1 : Int32) (v : gV) : Prop := p_X12_lossOf_0 x1 v
theorem c_X12_lossOf {E : gE} {d : Nat}   (hd : 1 ≤ d) (x1 : Int32) (v : gV) (hp : p_X12_lossOf x1 v) : CT E m_X12_lossOf d 0 0 [.ref (gX E + 559), .int x1] (rS v) (Cq (.inl (some (.int (f_X12_lossOf x1 v)))) v) := CT.of ok_X12_lossOf rfl (Nat.le_of_ble_eq_true rfl) (w_X12_lossOf_0  hd x1 v hp ⟨rfl, rfl⟩)
def f_X12_within_61  (K27 : Int32 → Int64 → Int32 → gV → Int64 × gV)  (x1 : Int32) (x4 : Int32) (s0 : Int64) (s1 : Int64) (v : gV) : Int64 × gV := K27 x1 (s1 + s0) (x4 + 1) v
def p_X12_within_61  (K27 : Int32 → Int64 → Int32 → gV → Int64 × gV)  (PK27 : Int32 → Int64 → Int32 → gV → Prop)  (x1 : Int32) (x4 : Int32) (s0 : Int64) (s1 : Int64) (v : gV) : Prop := PK27 x1 (s1 + s0) (x4 + 1) v
set_option maxHeartbeats 4000000 in
set_option maxRecDepth 100000 in
theorem w_X12_within_61 {E : gE} {d : Nat} {Q : gO → gS → Prop}   (hd : 3 ≤ d) (K27 : Int32 → Int64 → Int32 → gV → Int64 × gV)  (PK27 : Int32 → Int64 → Int32 → gV → Prop)  (hK27 : ∀ (x1 : Int32) (x2 : Int64) (x4 : Int32) (v : gV), PK27 x1 x2 x4 v → gqJV Q (K27 x1 x2 x4 v) → gG E m_X12_within d Q 0 0 (rS v) 27 [(0, .ref (gX E + 559)), (1, .int x1), (2, .long x2), (4, .int x4)] [])  (x1 : Int32) (x4 : Int32) (s0 : Int64) (s1 : Int64) (v : gV) (hp : p_X12_within_61 K27 PK27 x1 x4 s0 s1 v) (hQ : gqJV Q (f_X12_within_61 K27 x1 x4 s0 s1 v)) : gG E m_X12_within d Q 0 0 (rS v) 61 [(0, .ref (gX E + 559)), (1, .int x1), (4, .int x4)] [.long s0, .long s1] := by
  refine g_ladd dX12_within_61 ?_
  refine g_lstore_n [(2, .long (s1 + s0)), (0, .ref (gX E + 559)), (1, .int x1), (4, .int x4)] dX12_within_62 rfl (by decide) rfl ?_
  refine g_iinc 3 (x4 + 1) [(4, .int (x4 + 1)), (2, .long (s1 + s0)), (0, .ref (gX E + 559)), (1, .int x1)] dX12_within_63 rfl rfl (by decide) rfl ?_
  refine g_goto 27 dX12_within_66 (by decide) ?_
  refine g_lv (lv' := [(0, .ref (gX E + 559)), (1, .int x1), (2, .long (s1 + s0)), (4, .int (x4 + 1))]) [2, 3, 1, 0] rfl ?_
  exact hK27 x1 (s1 + s0) (x4 + 1) v hp hQ
def f_X12_within_27  : Nat → Int32 → Int64 → Int32 → gV → Int64 × gV
  | 0, _, _, _, v => (0, v)
  | n + 1, x1, x2, x4, v => if ((1 : Int32) <<< ((v.1 560 (0 : Int32).toNatClampNeg) &&& 31)) ≤ x4 then ((x2, v)) else (if x1 < (f_X12_lossOf x4 v) then (f_X12_within_61 (fun x1 x2 x4 v => f_X12_within_27  n x1 x2 x4 v) x1 x4 (0 : Int64) x2 v) else (f_X12_within_61 (fun x1 x2 x4 v => f_X12_within_27  n x1 x2 x4 v) x1 x4 (f_X12_soaking x4 v) x2 v))
def p_X12_within_27  : Nat → Int32 → Int64 → Int32 → gV → Prop
  | 0, _, _, _, _ => False
  | n + 1, x1, x2, x4, v => ((((1 : Int32) <<< ((v.1 560 (0 : Int32).toNatClampNeg) &&& 31)) ≤ x4) → (True)) ∧ (¬ (((1 : Int32) <<< ((v.1 560 (0 : Int32).toNatClampNeg) &&& 31)) ≤ x4) → ((p_X12_lossOf x4 v) ∧ (((x1 < (f_X12_lossOf x4 v)) → (p_X12_within_61 (fun x1 x2 x4 v => f_X12_within_27  n x1 x2 x4 v) (fun x1 x2 x4 v => p_X12_within_27   n x1 x2 x4 v) x1 x4 (0 : Int64) x2 v)) ∧ (¬ (x1 < (f_X12_lossOf x4 v)) → ((p_X12_soaking x4 v) ∧ (p_X12_within_61 (fun x1 x2 x4 v => f_X12_within_27  n x1 x2 x4 v) (fun x1 x2 x4 v => p_X12_within_27   n x1 x2 x4 v) x1 x4 (f_X12_soaking x4 v) x2 v))))))
set_option maxHeartbeats 4000000 in
set_option maxRecDepth 100000 in
theorem w_X12_within_27 {E : gE} {d : Nat} {Q : gO → gS → Prop}   (hd : 3 ≤ d) : ∀ (n : Nat) (x1 : Int32) (x2 : Int64) (x4 : Int32) (v : gV), p_X12_within_27   n x1 x2 x4 v → gqJV Q (f_X12_within_27  n x1 x2 x4 v) → gG E m_X12_within d Q 0 0 (rS v) 27 [(0, .ref (gX E + 559)), (1, .int x1), (2, .long x2), (4, .int x4)] [] := by
  intro n
  induction n with
  | zero => intro x1 x2 x4 v hp; exact hp.elim
  | succ n ih =>
    intro x1 x2 x4 v hp hQ
    refine g_iload 3 dX12_within_27 rfl ?_
    refine g_iconst dX12_within_29 (1 : Int32) (by decide) ?_
    refine g_aload_n 0 dX12_within_30 rfl ?_
    refine r_get (.ref (gX E + 560)) f_X12_7_X12 rfl (by decide : kd 559 = (0, 9)) (show 559 < 572 by decide) dX12_within_31 (fun _ => rfl) ?_
    refine g_iconst dX12_within_34 (0 : Int32) (by decide) ?_
    refine g_iald (by decide : kd 560 = (1, 300)) (show 560 < 572 by decide) (show ¬ (_ ∨ _) by decide) dX12_within_35 ?_
    refine g_ishl dX12_within_36 ?_
    refine g_icmp_ge 69 dX12_within_37 (by decide) (fun h3 => ?_) (fun h3 => ?_)
    · have hQ := qp (P := gqJV Q) h3 hQ
      have hp := hp.1 h3
      refine g_lload_n 2 dX12_within_69 rfl ?_
      exact g_lret rfl dX12_within_70 hQ
    · have hQ := qn (P := gqJV Q) h3 hQ
      have hp := hp.2 h3
      refine g_lload_n 2 dX12_within_40 rfl ?_
      refine g_aload_n 0 dX12_within_41 rfl ?_
      refine g_iload 3 dX12_within_42 rfl ?_
      obtain ⟨h4, hp⟩ := hp
      refine g_callV (rest := [.long x2]) s_X12_228_X12 rfl (c_X12_lossOf (E := E) (d := d - 1)   (by omega) x4 v h4) (by decide : kd 559 = (0, 9)) (show 559 < 572 by decide) rfl rfl (Nat.le_of_ble_eq_true rfl) (by omega) (by decide) (by decide) dX12_within_44 (adV ?_) axN
      refine g_iload_n 1 dX12_within_47 rfl ?_
      refine g_icmp_gt 60 dX12_within_48 (by decide) (fun h5 => ?_) (fun h5 => ?_)
      · have hQ := qp (P := gqJV Q) h5 hQ
        have hp := hp.1 h5
        refine g_lconst dX12_within_60 (0 : Int64) (by decide) ?_
        refine g_lv (lv' := [(0, .ref (gX E + 559)), (1, .int x1), (4, .int x4)]) [0, 1, 3] rfl ?_
        exact w_X12_within_61  hd (fun x1 x2 x4 v => f_X12_within_27  n x1 x2 x4 v) (fun x1 x2 x4 v => p_X12_within_27   n x1 x2 x4 v) ih x1 x4 (0 : Int64) x2 v hp hQ
      · have hQ := qn (P := gqJV Q) h5 hQ
        have hp := hp.2 h5
        refine g_aload_n 0 dX12_within_51 rfl ?_
        refine g_iload 3 dX12_within_52 rfl ?_
        obtain ⟨h6, hp⟩ := hp
        refine g_callV (rest := [.long x2]) s_X12_231_X12 rfl (c_X12_soaking (E := E) (d := d - 1)   (by omega) x4 v h6) (by decide : kd 559 = (0, 9)) (show 559 < 572 by decide) rfl rfl (Nat.le_of_ble_eq_true rfl) (by omega) (by decide) (by decide) dX12_within_54 (adV ?_) axN
        refine g_goto 61 dX12_within_57 (by decide) ?_
        refine g_lv (lv' := [(0, .ref (gX E + 559)), (1, .int x1), (4, .int x4)]) [0, 1, 3] rfl ?_
        exact w_X12_within_61  hd (fun x1 x2 x4 v => f_X12_within_27  n x1 x2 x4 v) (fun x1 x2 x4 v => p_X12_within_27   n x1 x2 x4 v) ih x1 x4 (f_X12_soaking x4 v) x2 v hp hQ
def f_X12_within_13  (x1 : Int32) (v : gV) : Int64 × gV := if (v.1 559 6) ≤ 0 then (f_X12_within_27  5000 x1 (0 : Int64) (0 : Int32) v) else (((0 : Int64), v))
def p_X12_within_13  (x1 : Int32) (v : gV) : Prop := (((v.1 559 6) ≤ 0) → (p_X12_within_27   5000 x1 (0 : Int64) (0 : Int32) v)) ∧ (¬ ((v.1 559 6) ≤ 0) → (True))
set_option maxHeartbeats 4000000 in
set_option maxRecDepth 100000 in
theorem w_X12_within_13 {E : gE} {d : Nat} {Q : gO → gS → Prop}   (hd : 3 ≤ d) (x1 : Int32) (v : gV) (hp : p_X12_within_13   x1 v) (hQ : gqJV Q (f_X12_within_13  x1 v)) : gG E m_X12_within d Q 0 0 (rS v) 13 [(0, .ref (gX E + 559)), (1, .int x1)] [] := by
  refine g_aload_n 0 dX12_within_13 rfl ?_
  refine r_get (.int (v.1 559 6)) f_X12_28_X12 rfl (by decide : kd 559 = (0, 9)) (show 559 < 572 by decide) dX12_within_14 (fun _ => rfl) ?_
  refine g_if_le 22 dX12_within_17 (by decide) (fun h2 => ?_) (fun h2 => ?_)
  · have hQ := qp (P := gqJV Q) h2 hQ
    have hp := hp.1 h2
    refine g_lconst dX12_within_22 (0 : Int64) (by decide) ?_
    refine g_lstore_n [(2, .long ((0 : Int64))), (0, .ref (gX E + 559)), (1, .int x1)] dX12_within_23 rfl (by decide) rfl ?_
    refine g_iconst dX12_within_24 (0 : Int32) (by decide) ?_
    refine g_istore [(4, .int ((0 : Int32))), (2, .long ((0 : Int64))), (0, .ref (gX E + 559)), (1, .int x1)] dX12_within_25 (by decide) rfl ?_
    refine g_lv (lv' := [(0, .ref (gX E + 559)), (1, .int x1), (2, .long ((0 : Int64))), (4, .int ((0 : Int32)))]) [2, 3, 1, 0] rfl ?_
    exact w_X12_within_27  hd    5000 x1 (0 : Int64) (0 : Int32) v hp hQ
  · have hQ := qn (P := gqJV Q) h2 hQ
    have hp := hp.2 h2
    refine g_lconst dX12_within_20 (0 : Int64) (by decide) ?_
    exact g_lret rfl dX12_within_21 hQ
def f_X12_within_10  (x1 : Int32) (s0 : Int32) (v : gV) : Int64 × gV := f_X12_within_13  x1 (vM v 559 6 s0)
def p_X12_within_10  (x1 : Int32) (s0 : Int32) (v : gV) : Prop := p_X12_within_13   x1 (vM v 559 6 s0)
set_option maxHeartbeats 4000000 in
set_option maxRecDepth 100000 in
theorem w_X12_within_10 {E : gE} {d : Nat} {Q : gO → gS → Prop}   (hd : 3 ≤ d) (x1 : Int32) (s0 : Int32) (v : gV) (hp : p_X12_within_10   x1 s0 v) (hQ : gqJV Q (f_X12_within_10  x1 s0 v)) : gG E m_X12_within d Q 0 0 (rS v) 10 [(0, .ref (gX E + 559)), (1, .int x1)] [.int s0, .ref (gX E + 559)] := by
  refine r_put pf_X12_28_X12 rfl (by decide : kd 559 = (0, 9)) (by decide) (by decide) rfl (show 559 < 572 by decide) rfl rfl dX12_within_10 ?_
  exact w_X12_within_13  hd    x1 (vM v 559 6 s0) hp hQ
def f_X12_within_0  (x1 : Int32) (v : gV) : Int64 × gV := if 0 ≤ x1 then (f_X12_within_10  x1 (0 : Int32) v) else (f_X12_within_10  x1 (1 : Int32) v)
def p_X12_within_0  (x1 : Int32) (v : gV) : Prop := ((0 ≤ x1) → (p_X12_within_10   x1 (0 : Int32) v)) ∧ (¬ (0 ≤ x1) → (p_X12_within_10   x1 (1 : Int32) v))
set_option maxHeartbeats 4000000 in
set_option maxRecDepth 100000 in
theorem w_X12_within_0 {E : gE} {d : Nat} {Q : gO → gS → Prop}   (hd : 3 ≤ d) (x1 : Int32) (v : gV) (hp : p_X12_within_0   x1 v) (hQ : gqJV Q (f_X12_within_0  x1 v)) : gG E m_X12_within d Q 0 0 (rS v) 0 [(0, .ref (gX E + 559)), (1, .int x1)] [] := by
  refine g_aload_n 0 dX12_within_0 rfl ?_
  refine g_iload_n 1 dX12_within_1 rfl ?_
  refine g_if_ge 9 dX12_within_2 (by decide) (fun h1 => ?_) (fun h1 => ?_)
  · have hQ := qp (P := gqJV Q) h1 hQ
    have hp := hp.1 h1
    refine g_iconst dX12_within_9 (0 : Int32) (by decide) ?_
    exact w_X12_within_10  hd    x1 (0 : Int32) v hp hQ
  · have hQ := qn (P := gqJV Q) h1 hQ
    have hp := hp.2 h1
    refine g_iconst dX12_within_5 (1 : Int32) (by decide) ?_
    refine g_goto 10 dX12_within_6 (by decide) ?_
    exact w_X12_within_10  hd    x1 (1 : Int32) v hp hQ
def f_X12_within  (x1 : Int32) (v : gV) : Int64 × gV := f_X12_within_0 x1 v
def p_X12_within  (x1 : Int32) (v : gV) : Prop := p_X12_within_0 x1 v
theorem c_X12_within {E : gE} {d : Nat}   (hd : 3 ≤ d) (x1 : Int32) (v : gV) (hp : p_X12_within x1 v) : CT E m_X12_within d 0 0 [.ref (gX E + 559), .int x1] (rS v) (Cq (.inl (some (.long ((f_X12_within x1 v).1)))) (f_X12_within x1 v).2) := CT.of ok_X12_within rfl (Nat.le_of_ble_eq_true rfl) (w_X12_within_0  hd x1 v hp ⟨rfl, rfl⟩)
def f_X12_outcomesWithin_5  (s0 : Int64) (v : gV) : Int64 × gV := (s0, v)
def p_X12_outcomesWithin_5  (s0 : Int64) (v : gV) : Prop := True
set_option maxHeartbeats 4000000 in
set_option maxRecDepth 100000 in
theorem w_X12_outcomesWithin_5 {E : gE} {d : Nat} {Q : gO → gS → Prop}   (hd : 4 ≤ d) (s0 : Int64) (v : gV) (hp : p_X12_outcomesWithin_5   s0 v) (hQ : gqJV Q (f_X12_outcomesWithin_5  s0 v)) : gG E m_X12_outcomesWithin d Q 0 0 (rS v) 5 [] [.long s0] := by
  exact g_lret rfl dX12_outcomesWithin_5 hQ
def f_X12_outcomesWithin_0  (x1 : Int32) (v : gV) : Int64 × gV := f_X12_outcomesWithin_5  ((f_X12_within x1 v).1) (f_X12_within x1 v).2
def p_X12_outcomesWithin_0  (x1 : Int32) (v : gV) : Prop := (p_X12_within x1 v) ∧ (p_X12_outcomesWithin_5   ((f_X12_within x1 v).1) (f_X12_within x1 v).2)
set_option maxHeartbeats 4000000 in
set_option maxRecDepth 100000 in
theorem w_X12_outcomesWithin_0 {E : gE} {d : Nat} {Q : gO → gS → Prop}   (hd : 4 ≤ d) (x1 : Int32) (v : gV) (hp : p_X12_outcomesWithin_0   x1 v) (hQ : gqJV Q (f_X12_outcomesWithin_0  x1 v)) : gG E m_X12_outcomesWithin d Q 0 0 (rS v) 0 [(0, .ref (gX E + 559)), (1, .int x1)] [] := by
  refine g_aload_n 0 dX12_outcomesWithin_0 rfl ?_
  refine g_iload_n 1 dX12_outcomesWithin_1 rfl ?_
  obtain ⟨h1, hp⟩ := hp
  refine g_callV (rest := []) s_X12_235_X12 rfl (c_X12_within (E := E) (d := d - 1)   (by omega) x1 v h1) (by decide : kd 559 = (0, 9)) (show 559 < 572 by decide) rfl rfl (Nat.le_of_ble_eq_true rfl) (by omega) (by decide) (by decide) dX12_outcomesWithin_2 (adV ?_) axN
  refine g_lv (lv' := []) [] rfl ?_
  exact w_X12_outcomesWithin_5  hd    ((f_X12_within x1 v).1) (f_X12_within x1 v).2 hp hQ
def f_X12_outcomesWithin  (x1 : Int32) (v : gV) : Int64 × gV := f_X12_outcomesWithin_0 x1 v
def p_X12_outcomesWithin  (x1 : Int32) (v : gV) : Prop := p_X12_outcomesWithin_0 x1 v
theorem c_X12_outcomesWithin {E : gE} {d : Nat}   (hd : 4 ≤ d) (x1 : Int32) (v : gV) (hp : p_X12_outcomesWithin x1 v) : CT E m_X12_outcomesWithin d 0 0 [.ref (gX E + 559), .int x1] (rS v) (Cq (.inl (some (.long ((f_X12_outcomesWithin x1 v).1)))) (f_X12_outcomesWithin x1 v).2) := CT.of ok_X12_outcomesWithin rfl (Nat.le_of_ble_eq_true rfl) (w_X12_outcomesWithin_0  hd x1 v hp ⟨rfl, rfl⟩)
def f_X12_outcomesWithinBySets_5  (s0 : Int64) (v : gV) : Int64 × gV := (s0, v)
def p_X12_outcomesWithinBySets_5  (s0 : Int64) (v : gV) : Prop := True
set_option maxHeartbeats 4000000 in
set_option maxRecDepth 100000 in
theorem w_X12_outcomesWithinBySets_5 {E : gE} {d : Nat} {Q : gO → gS → Prop}   (hd : 4 ≤ d) (s0 : Int64) (v : gV) (hp : p_X12_outcomesWithinBySets_5   s0 v) (hQ : gqJV Q (f_X12_outcomesWithinBySets_5  s0 v)) : gG E m_X12_outcomesWithinBySets d Q 0 0 (rS v) 5 [] [.long s0] := by
  exact g_lret rfl dX12_outcomesWithinBySets_5 hQ
def f_X12_outcomesWithinBySets_0  (x1 : Int32) (v : gV) : Int64 × gV := f_X12_outcomesWithinBySets_5  ((f_X12_within x1 v).1) (f_X12_within x1 v).2
def p_X12_outcomesWithinBySets_0  (x1 : Int32) (v : gV) : Prop := (p_X12_within x1 v) ∧ (p_X12_outcomesWithinBySets_5   ((f_X12_within x1 v).1) (f_X12_within x1 v).2)
set_option maxHeartbeats 4000000 in
set_option maxRecDepth 100000 in
theorem w_X12_outcomesWithinBySets_0 {E : gE} {d : Nat} {Q : gO → gS → Prop}   (hd : 4 ≤ d) (x1 : Int32) (v : gV) (hp : p_X12_outcomesWithinBySets_0   x1 v) (hQ : gqJV Q (f_X12_outcomesWithinBySets_0  x1 v)) : gG E m_X12_outcomesWithinBySets d Q 0 0 (rS v) 0 [(0, .ref (gX E + 559)), (1, .int x1)] [] := by
  refine g_aload_n 0 dX12_outcomesWithinBySets_0 rfl ?_
  refine g_iload_n 1 dX12_outcomesWithinBySets_1 rfl ?_
  obtain ⟨h1, hp⟩ := hp
  refine g_callV (rest := []) s_X12_235_X12 rfl (c_X12_within (E := E) (d := d - 1)   (by omega) x1 v h1) (by decide : kd 559 = (0, 9)) (show 559 < 572 by decide) rfl rfl (Nat.le_of_ble_eq_true rfl) (by omega) (by decide) (by decide) dX12_outcomesWithinBySets_2 (adV ?_) axN
  refine g_lv (lv' := []) [] rfl ?_
  exact w_X12_outcomesWithinBySets_5  hd    ((f_X12_within x1 v).1) (f_X12_within x1 v).2 hp hQ
def f_X12_outcomesWithinBySets  (x1 : Int32) (v : gV) : Int64 × gV := f_X12_outcomesWithinBySets_0 x1 v
def p_X12_outcomesWithinBySets  (x1 : Int32) (v : gV) : Prop := p_X12_outcomesWithinBySets_0 x1 v
theorem c_X12_outcomesWithinBySets {E : gE} {d : Nat}   (hd : 4 ≤ d) (x1 : Int32) (v : gV) (hp : p_X12_outcomesWithinBySets x1 v) : CT E m_X12_outcomesWithinBySets d 0 0 [.ref (gX E + 559), .int x1] (rS v) (Cq (.inl (some (.long ((f_X12_outcomesWithinBySets x1 v).1)))) (f_X12_outcomesWithinBySets x1 v).2) := CT.of ok_X12_outcomesWithinBySets rfl (Nat.le_of_ble_eq_true rfl) (w_X12_outcomesWithinBySets_0  hd x1 v hp ⟨rfl, rfl⟩)
def f_X12_greatestLoss_47  (K9 : Int32 → Int32 → gV → Int32 × gV)  (x2 : Int32) (s0 : Int32) (s1 : Int32) (v : gV) : Int32 × gV := K9 (s1 + s0) (x2 + 1) v
def p_X12_greatestLoss_47  (K9 : Int32 → Int32 → gV → Int32 × gV)  (PK9 : Int32 → Int32 → gV → Prop)  (x2 : Int32) (s0 : Int32) (s1 : Int32) (v : gV) : Prop := PK9 (s1 + s0) (x2 + 1) v
set_option maxHeartbeats 4000000 in
set_option maxRecDepth 100000 in
theorem w_X12_greatestLoss_47 {E : gE} {d : Nat} {Q : gO → gS → Prop}   (hd : 2 ≤ d) (K9 : Int32 → Int32 → gV → Int32 × gV)  (PK9 : Int32 → Int32 → gV → Prop)  (hK9 : ∀ (x1 : Int32) (x2 : Int32) (v : gV), PK9 x1 x2 v → gqIV Q (K9 x1 x2 v) → gG E m_X12_greatestLoss d Q 0 0 (rS v) 9 [(0, .ref (gX E + 559)), (1, .int x1), (2, .int x2)] [])  (x2 : Int32) (s0 : Int32) (s1 : Int32) (v : gV) (hp : p_X12_greatestLoss_47 K9 PK9 x2 s0 s1 v) (hQ : gqIV Q (f_X12_greatestLoss_47 K9 x2 s0 s1 v)) : gG E m_X12_greatestLoss d Q 0 0 (rS v) 47 [(0, .ref (gX E + 559)), (2, .int x2)] [.int s0, .int s1] := by
  refine g_iadd dX12_greatestLoss_47 ?_
  refine g_istore_n [(1, .int (s1 + s0)), (0, .ref (gX E + 559)), (2, .int x2)] dX12_greatestLoss_48 rfl (by decide) rfl ?_
  refine g_iinc 2 (x2 + 1) [(2, .int (x2 + 1)), (1, .int (s1 + s0)), (0, .ref (gX E + 559))] dX12_greatestLoss_49 rfl rfl (by decide) rfl ?_
  refine g_goto 9 dX12_greatestLoss_52 (by decide) ?_
  refine g_lv (lv' := [(0, .ref (gX E + 559)), (1, .int (s1 + s0)), (2, .int (x2 + 1))]) [2, 1, 0] rfl ?_
  exact hK9 (s1 + s0) (x2 + 1) v hp hQ
def f_X12_greatestLoss_46  (K9 : Int32 → Int32 → gV → Int32 × gV)  (x2 : Int32) (s0 : Int32) (v : gV) : Int32 × gV := f_X12_greatestLoss_47 K9 x2 (0 : Int32) s0 v
def p_X12_greatestLoss_46  (K9 : Int32 → Int32 → gV → Int32 × gV)  (PK9 : Int32 → Int32 → gV → Prop)  (x2 : Int32) (s0 : Int32) (v : gV) : Prop := p_X12_greatestLoss_47 K9 PK9 x2 (0 : Int32) s0 v
set_option maxHeartbeats 4000000 in
set_option maxRecDepth 100000 in
theorem w_X12_greatestLoss_46 {E : gE} {d : Nat} {Q : gO → gS → Prop}   (hd : 2 ≤ d) (K9 : Int32 → Int32 → gV → Int32 × gV)  (PK9 : Int32 → Int32 → gV → Prop)  (hK9 : ∀ (x1 : Int32) (x2 : Int32) (v : gV), PK9 x1 x2 v → gqIV Q (K9 x1 x2 v) → gG E m_X12_greatestLoss d Q 0 0 (rS v) 9 [(0, .ref (gX E + 559)), (1, .int x1), (2, .int x2)] [])  (x2 : Int32) (s0 : Int32) (v : gV) (hp : p_X12_greatestLoss_46 K9 PK9 x2 s0 v) (hQ : gqIV Q (f_X12_greatestLoss_46 K9 x2 s0 v)) : gG E m_X12_greatestLoss d Q 0 0 (rS v) 46 [(0, .ref (gX E + 559)), (2, .int x2)] [.int s0] := by
  refine g_iconst dX12_greatestLoss_46 (0 : Int32) (by decide) ?_
  exact w_X12_greatestLoss_47  hd K9 PK9 hK9 x2 (0 : Int32) s0 v hp hQ
def f_X12_greatestLoss_9  : Nat → Int32 → Int32 → gV → Int32 × gV
  | 0, _, _, v => (0, v)
  | n + 1, x1, x2, v => if (v.1 560 (0 : Int32).toNatClampNeg) ≤ x2 then ((x1, v)) else (if (f_X12_isActiveAt x2 v) = 0 then (f_X12_greatestLoss_46 (fun x1 x2 v => f_X12_greatestLoss_9  n x1 x2 v) x2 x1 v) else (if (f_X12_p x2 (2 : Int32) v) ≤ 0 then (f_X12_greatestLoss_46 (fun x1 x2 v => f_X12_greatestLoss_9  n x1 x2 v) x2 x1 v) else (f_X12_greatestLoss_47 (fun x1 x2 v => f_X12_greatestLoss_9  n x1 x2 v) x2 (f_X12_p x2 (1 : Int32) v) x1 v)))
def p_X12_greatestLoss_9  : Nat → Int32 → Int32 → gV → Prop
  | 0, _, _, _ => False
  | n + 1, x1, x2, v => (((v.1 560 (0 : Int32).toNatClampNeg) ≤ x2) → (True)) ∧ (¬ ((v.1 560 (0 : Int32).toNatClampNeg) ≤ x2) → ((p_X12_isActiveAt x2 v) ∧ ((((f_X12_isActiveAt x2 v) = 0) → (p_X12_greatestLoss_46 (fun x1 x2 v => f_X12_greatestLoss_9  n x1 x2 v) (fun x1 x2 v => p_X12_greatestLoss_9   n x1 x2 v) x2 x1 v)) ∧ (¬ ((f_X12_isActiveAt x2 v) = 0) → ((p_X12_p x2 (2 : Int32) v) ∧ ((((f_X12_p x2 (2 : Int32) v) ≤ 0) → (p_X12_greatestLoss_46 (fun x1 x2 v => f_X12_greatestLoss_9  n x1 x2 v) (fun x1 x2 v => p_X12_greatestLoss_9   n x1 x2 v) x2 x1 v)) ∧ (¬ ((f_X12_p x2 (2 : Int32) v) ≤ 0) → ((p_X12_p x2 (1 : Int32) v) ∧ (p_X12_greatestLoss_47 (fun x1 x2 v => f_X12_greatestLoss_9  n x1 x2 v) (fun x1 x2 v => p_X12_greatestLoss_9   n x1 x2 v) x2 (f_X12_p x2 (1 : Int32) v) x1 v)))))))))
set_option maxHeartbeats 4000000 in
set_option maxRecDepth 100000 in
theorem w_X12_greatestLoss_9 {E : gE} {d : Nat} {Q : gO → gS → Prop}   (hd : 2 ≤ d) : ∀ (n : Nat) (x1 : Int32) (x2 : Int32) (v : gV), p_X12_greatestLoss_9   n x1 x2 v → gqIV Q (f_X12_greatestLoss_9  n x1 x2 v) → gG E m_X12_greatestLoss d Q 0 0 (rS v) 9 [(0, .ref (gX E + 559)), (1, .int x1), (2, .int x2)] [] := by
  intro n
  induction n with
  | zero => intro x1 x2 v hp; exact hp.elim
  | succ n ih =>
    intro x1 x2 v hp hQ
    refine g_iload_n 2 dX12_greatestLoss_9 rfl ?_
    refine g_aload_n 0 dX12_greatestLoss_10 rfl ?_
    refine r_get (.ref (gX E + 560)) f_X12_7_X12 rfl (by decide : kd 559 = (0, 9)) (show 559 < 572 by decide) dX12_greatestLoss_11 (fun _ => rfl) ?_
    refine g_iconst dX12_greatestLoss_14 (0 : Int32) (by decide) ?_
    refine g_iald (by decide : kd 560 = (1, 300)) (show 560 < 572 by decide) (show ¬ (_ ∨ _) by decide) dX12_greatestLoss_15 ?_
    refine g_icmp_ge 55 dX12_greatestLoss_16 (by decide) (fun h1 => ?_) (fun h1 => ?_)
    · have hQ := qp (P := gqIV Q) h1 hQ
      have hp := hp.1 h1
      refine g_iload_n 1 dX12_greatestLoss_55 rfl ?_
      exact g_iret rfl dX12_greatestLoss_56 hQ
    · have hQ := qn (P := gqIV Q) h1 hQ
      have hp := hp.2 h1
      refine g_iload_n 1 dX12_greatestLoss_19 rfl ?_
      refine g_aload_n 0 dX12_greatestLoss_20 rfl ?_
      refine g_iload_n 2 dX12_greatestLoss_21 rfl ?_
      obtain ⟨h2, hp⟩ := hp
      refine g_callV (rest := [.int x1]) s_X12_114_X12 rfl (c_X12_isActiveAt (E := E) (d := d - 1)   (by omega) x2 v h2) (by decide : kd 559 = (0, 9)) (show 559 < 572 by decide) rfl rfl (Nat.le_of_ble_eq_true rfl) (by omega) (by decide) (by decide) dX12_greatestLoss_22 (adV ?_) axN
      refine g_if_eq 46 dX12_greatestLoss_25 (by decide) (fun h3 => ?_) (fun h3 => ?_)
      · have hQ := qp (P := gqIV Q) h3 hQ
        have hp := hp.1 h3
        refine g_lv (lv' := [(0, .ref (gX E + 559)), (2, .int x2)]) [0, 2] rfl ?_
        exact w_X12_greatestLoss_46  hd (fun x1 x2 v => f_X12_greatestLoss_9  n x1 x2 v) (fun x1 x2 v => p_X12_greatestLoss_9   n x1 x2 v) ih x2 x1 v hp hQ
      · have hQ := qn (P := gqIV Q) h3 hQ
        have hp := hp.2 h3
        refine g_aload_n 0 dX12_greatestLoss_28 rfl ?_
        refine g_iload_n 2 dX12_greatestLoss_29 rfl ?_
        refine g_iconst dX12_greatestLoss_30 (2 : Int32) (by decide) ?_
        obtain ⟨h4, hp⟩ := hp
        refine g_callV (rest := [.int x1]) s_X12_79_X12 rfl (c_X12_p (E := E) (d := d - 1)   (by omega) x2 (2 : Int32) v h4) (by decide : kd 559 = (0, 9)) (show 559 < 572 by decide) rfl rfl (Nat.le_of_ble_eq_true rfl) (by omega) (by decide) (by decide) dX12_greatestLoss_31 (adV ?_) axN
        refine g_if_le 46 dX12_greatestLoss_34 (by decide) (fun h5 => ?_) (fun h5 => ?_)
        · have hQ := qp (P := gqIV Q) h5 hQ
          have hp := hp.1 h5
          refine g_lv (lv' := [(0, .ref (gX E + 559)), (2, .int x2)]) [0, 2] rfl ?_
          exact w_X12_greatestLoss_46  hd (fun x1 x2 v => f_X12_greatestLoss_9  n x1 x2 v) (fun x1 x2 v => p_X12_greatestLoss_9   n x1 x2 v) ih x2 x1 v hp hQ
        · have hQ := qn (P := gqIV Q) h5 hQ
          have hp := hp.2 h5
          refine g_aload_n 0 dX12_greatestLoss_37 rfl ?_
          refine g_iload_n 2 dX12_greatestLoss_38 rfl ?_
          refine g_iconst dX12_greatestLoss_39 (1 : Int32) (by decide) ?_
          obtain ⟨h6, hp⟩ := hp
          refine g_callV (rest := [.int x1]) s_X12_79_X12 rfl (c_X12_p (E := E) (d := d - 1)   (by omega) x2 (1 : Int32) v h6) (by decide : kd 559 = (0, 9)) (show 559 < 572 by decide) rfl rfl (Nat.le_of_ble_eq_true rfl) (by omega) (by decide) (by decide) dX12_greatestLoss_40 (adV ?_) axN
          refine g_goto 47 dX12_greatestLoss_43 (by decide) ?_
          refine g_lv (lv' := [(0, .ref (gX E + 559)), (2, .int x2)]) [0, 2] rfl ?_
          exact w_X12_greatestLoss_47  hd (fun x1 x2 v => f_X12_greatestLoss_9  n x1 x2 v) (fun x1 x2 v => p_X12_greatestLoss_9   n x1 x2 v) ih x2 (f_X12_p x2 (1 : Int32) v) x1 v hp hQ
def f_X12_greatestLoss_5   (v : gV) : Int32 × gV := f_X12_greatestLoss_9  5000 (0 : Int32) (0 : Int32) v
def p_X12_greatestLoss_5   (v : gV) : Prop := p_X12_greatestLoss_9   5000 (0 : Int32) (0 : Int32) v
set_option maxHeartbeats 4000000 in
set_option maxRecDepth 100000 in
theorem w_X12_greatestLoss_5 {E : gE} {d : Nat} {Q : gO → gS → Prop}   (hd : 2 ≤ d)  (v : gV) (hp : p_X12_greatestLoss_5    v) (hQ : gqIV Q (f_X12_greatestLoss_5   v)) : gG E m_X12_greatestLoss d Q 0 0 (rS v) 5 [(0, .ref (gX E + 559))] [] := by
  refine g_iconst dX12_greatestLoss_5 (0 : Int32) (by decide) ?_
  refine g_istore_n [(1, .int ((0 : Int32))), (0, .ref (gX E + 559))] dX12_greatestLoss_6 rfl (by decide) rfl ?_
  refine g_iconst dX12_greatestLoss_7 (0 : Int32) (by decide) ?_
  refine g_istore_n [(2, .int ((0 : Int32))), (1, .int ((0 : Int32))), (0, .ref (gX E + 559))] dX12_greatestLoss_8 rfl (by decide) rfl ?_
  refine g_lv (lv' := [(0, .ref (gX E + 559)), (1, .int ((0 : Int32))), (2, .int ((0 : Int32)))]) [2, 1, 0] rfl ?_
  exact w_X12_greatestLoss_9  hd    5000 (0 : Int32) (0 : Int32) v hp hQ
def f_X12_greatestLoss_0   (v : gV) : Int32 × gV := f_X12_greatestLoss_5   (vM v 559 6 (0 : Int32))
def p_X12_greatestLoss_0   (v : gV) : Prop := p_X12_greatestLoss_5    (vM v 559 6 (0 : Int32))
set_option maxHeartbeats 4000000 in
set_option maxRecDepth 100000 in
theorem w_X12_greatestLoss_0 {E : gE} {d : Nat} {Q : gO → gS → Prop}   (hd : 2 ≤ d)  (v : gV) (hp : p_X12_greatestLoss_0    v) (hQ : gqIV Q (f_X12_greatestLoss_0   v)) : gG E m_X12_greatestLoss d Q 0 0 (rS v) 0 [(0, .ref (gX E + 559))] [] := by
  refine g_aload_n 0 dX12_greatestLoss_0 rfl ?_
  refine g_iconst dX12_greatestLoss_1 (0 : Int32) (by decide) ?_
  refine r_put pf_X12_28_X12 rfl (by decide : kd 559 = (0, 9)) (by decide) (by decide) rfl (show 559 < 572 by decide) rfl rfl dX12_greatestLoss_2 ?_
  exact w_X12_greatestLoss_5  hd     (vM v 559 6 (0 : Int32)) hp hQ
def f_X12_greatestLoss   (v : gV) : Int32 × gV := f_X12_greatestLoss_0  v
def p_X12_greatestLoss   (v : gV) : Prop := p_X12_greatestLoss_0  v
theorem c_X12_greatestLoss {E : gE} {d : Nat}   (hd : 2 ≤ d)  (v : gV) (hp : p_X12_greatestLoss  v) : CT E m_X12_greatestLoss d 0 0 [.ref (gX E + 559)] (rS v) (Cq (.inl (some (.int ((f_X12_greatestLoss  v).1)))) (f_X12_greatestLoss  v).2) := CT.of ok_X12_greatestLoss rfl (Nat.le_of_ble_eq_true rfl) (w_X12_greatestLoss_0  hd  v hp ⟨rfl, rfl⟩)
def f_X12_cell_0  (x1 : Int32) (x2 : Int32) (v : gV) : Int32 := v.1 560 (((264 : Int32) + ((6 : Int32) * x1)) + x2).toNatClampNeg
def p_X12_cell_0  (x1 : Int32) (x2 : Int32) (v : gV) : Prop := (vp_in (((264 : Int32) + ((6 : Int32) * x1)) + x2) 300) ∧ (True)
set_option maxHeartbeats 4000000 in
set_option maxRecDepth 100000 in
theorem w_X12_cell_0 {E : gE} {d : Nat} {Q : gO → gS → Prop}   (hd : 0 ≤ d) (x1 : Int32) (x2 : Int32) (v : gV) (hp : p_X12_cell_0   x1 x2 v) (hQ : gqI Q v (f_X12_cell_0  x1 x2 v)) : gG E m_X12_cell d Q 0 0 (rS v) 0 [(0, .ref (gX E + 559)), (1, .int x1), (2, .int x2)] [] := by
  refine g_aload_n 0 dX12_cell_0 rfl ?_
  refine r_get (.ref (gX E + 560)) f_X12_7_X12 rfl (by decide : kd 559 = (0, 9)) (show 559 < 572 by decide) dX12_cell_1 (fun _ => rfl) ?_
  refine g_sipush dX12_cell_4 (264 : Int32) (by decide) ?_
  refine g_bipush dX12_cell_7 (6 : Int32) (by decide) ?_
  refine g_iload_n 1 dX12_cell_9 rfl ?_
  refine g_imul dX12_cell_10 ?_
  refine g_iadd dX12_cell_11 ?_
  refine g_iload_n 2 dX12_cell_12 rfl ?_
  refine g_iadd dX12_cell_13 ?_
  obtain ⟨h1, hp⟩ := hp
  refine g_iald (by decide : kd 560 = (1, 300)) (show 560 < 572 by decide) h1 dX12_cell_14 ?_
  exact g_iret rfl dX12_cell_15 hQ
def f_X12_cell  (x1 : Int32) (x2 : Int32) (v : gV) : Int32 := f_X12_cell_0 x1 x2 v
def p_X12_cell  (x1 : Int32) (x2 : Int32) (v : gV) : Prop := p_X12_cell_0 x1 x2 v
theorem c_X12_cell {E : gE} {d : Nat}   (hd : 0 ≤ d) (x1 : Int32) (x2 : Int32) (v : gV) (hp : p_X12_cell x1 x2 v) : CT E m_X12_cell d 0 0 [.ref (gX E + 559), .int x1, .int x2] (rS v) (Cq (.inl (some (.int (f_X12_cell x1 x2 v)))) v) := CT.of ok_X12_cell rfl (Nat.le_of_ble_eq_true rfl) (w_X12_cell_0  hd x1 x2 v hp ⟨rfl, rfl⟩)
def f_X12_paidIn_40  (s0 : Int32) (v : gV) : Int32 × gV := (s0, v)
def p_X12_paidIn_40  (s0 : Int32) (v : gV) : Prop := True
set_option maxHeartbeats 4000000 in
set_option maxRecDepth 100000 in
theorem w_X12_paidIn_40 {E : gE} {d : Nat} {Q : gO → gS → Prop}   (hd : 1 ≤ d) (s0 : Int32) (v : gV) (hp : p_X12_paidIn_40   s0 v) (hQ : gqIV Q (f_X12_paidIn_40  s0 v)) : gG E m_X12_paidIn d Q 0 0 (rS v) 40 [] [.int s0] := by
  exact g_iret rfl dX12_paidIn_40 hQ
def f_X12_paidIn_27  (x1 : Int32) (x2 : Int32) (s0 : Int32) (v : gV) : Int32 × gV := if s0 ≤ 0 then (f_X12_paidIn_40  (f_X12_cell x1 x2 v) v) else (f_X12_paidIn_40  (0 : Int32) v)
def p_X12_paidIn_27  (x1 : Int32) (x2 : Int32) (s0 : Int32) (v : gV) : Prop := ((s0 ≤ 0) → ((p_X12_cell x1 x2 v) ∧ (p_X12_paidIn_40   (f_X12_cell x1 x2 v) v))) ∧ (¬ (s0 ≤ 0) → (p_X12_paidIn_40   (0 : Int32) v))
set_option maxHeartbeats 4000000 in
set_option maxRecDepth 100000 in
theorem w_X12_paidIn_27 {E : gE} {d : Nat} {Q : gO → gS → Prop}   (hd : 1 ≤ d) (x1 : Int32) (x2 : Int32) (s0 : Int32) (v : gV) (hp : p_X12_paidIn_27   x1 x2 s0 v) (hQ : gqIV Q (f_X12_paidIn_27  x1 x2 s0 v)) : gG E m_X12_paidIn d Q 0 0 (rS v) 27 [(0, .ref (gX E + 559)), (1, .int x1), (2, .int x2)] [.int s0] := by
  refine g_if_le 34 dX12_paidIn_27 (by decide) (fun h4 => ?_) (fun h4 => ?_)
  · have hQ := qp (P := gqIV Q) h4 hQ
    have hp := hp.1 h4
    refine g_aload_n 0 dX12_paidIn_34 rfl ?_
    refine g_iload_n 1 dX12_paidIn_35 rfl ?_
    refine g_iload_n 2 dX12_paidIn_36 rfl ?_
    obtain ⟨h5, hp⟩ := hp
    refine g_callV (rest := []) s_X12_238_X12 rfl (c_X12_cell (E := E) (d := d - 1)   (by omega) x1 x2 v h5) (by decide : kd 559 = (0, 9)) (show 559 < 572 by decide) rfl rfl (Nat.le_of_ble_eq_true rfl) (by omega) (by decide) (by decide) dX12_paidIn_37 (adV ?_) axN
    refine g_lv (lv' := []) [] rfl ?_
    exact w_X12_paidIn_40  hd    (f_X12_cell x1 x2 v) v hp hQ
  · have hQ := qn (P := gqIV Q) h4 hQ
    have hp := hp.2 h4
    refine g_iconst dX12_paidIn_30 (0 : Int32) (by decide) ?_
    refine g_goto 40 dX12_paidIn_31 (by decide) ?_
    refine g_lv (lv' := []) [] rfl ?_
    exact w_X12_paidIn_40  hd    (0 : Int32) v hp hQ
def f_X12_paidIn_24  (x1 : Int32) (x2 : Int32) (s0 : Int32) (v : gV) : Int32 × gV := f_X12_paidIn_27  x1 x2 ((f_X12_checked s0 v).1) (f_X12_checked s0 v).2
def p_X12_paidIn_24  (x1 : Int32) (x2 : Int32) (s0 : Int32) (v : gV) : Prop := (p_X12_checked s0 v) ∧ (p_X12_paidIn_27   x1 x2 ((f_X12_checked s0 v).1) (f_X12_checked s0 v).2)
set_option maxHeartbeats 4000000 in
set_option maxRecDepth 100000 in
theorem w_X12_paidIn_24 {E : gE} {d : Nat} {Q : gO → gS → Prop}   (hd : 1 ≤ d) (x1 : Int32) (x2 : Int32) (s0 : Int32) (v : gV) (hp : p_X12_paidIn_24   x1 x2 s0 v) (hQ : gqIV Q (f_X12_paidIn_24  x1 x2 s0 v)) : gG E m_X12_paidIn d Q 0 0 (rS v) 24 [(0, .ref (gX E + 559)), (1, .int x1), (2, .int x2)] [.int s0, .ref (gX E + 559)] := by
  obtain ⟨h3, hp⟩ := hp
  refine g_callV (rest := []) s_X12_213_X12 rfl (c_X12_checked (E := E) (d := d - 1)   (by omega) s0 v h3) (by decide : kd 559 = (0, 9)) (show 559 < 572 by decide) rfl rfl (Nat.le_of_ble_eq_true rfl) (by omega) (by decide) (by decide) dX12_paidIn_24 (adV ?_) axN
  exact w_X12_paidIn_27  hd    x1 x2 ((f_X12_checked s0 v).1) (f_X12_checked s0 v).2 hp hQ
def f_X12_paidIn_23  (x1 : Int32) (x2 : Int32) (v : gV) : Int32 × gV := f_X12_paidIn_24  x1 x2 (0 : Int32) v
def p_X12_paidIn_23  (x1 : Int32) (x2 : Int32) (v : gV) : Prop := p_X12_paidIn_24   x1 x2 (0 : Int32) v
set_option maxHeartbeats 4000000 in
set_option maxRecDepth 100000 in
theorem w_X12_paidIn_23 {E : gE} {d : Nat} {Q : gO → gS → Prop}   (hd : 1 ≤ d) (x1 : Int32) (x2 : Int32) (v : gV) (hp : p_X12_paidIn_23   x1 x2 v) (hQ : gqIV Q (f_X12_paidIn_23  x1 x2 v)) : gG E m_X12_paidIn d Q 0 0 (rS v) 23 [(0, .ref (gX E + 559)), (1, .int x1), (2, .int x2)] [.ref (gX E + 559)] := by
  refine g_iconst dX12_paidIn_23 (0 : Int32) (by decide) ?_
  exact w_X12_paidIn_24  hd    x1 x2 (0 : Int32) v hp hQ
def f_X12_paidIn_0  (x1 : Int32) (x2 : Int32) (v : gV) : Int32 × gV := if (f_X12_in x1 (0 : Int32) (5 : Int32) v) = 0 then (f_X12_paidIn_23  x1 x2 v) else (if (f_X12_in x2 (0 : Int32) (5 : Int32) v) = 0 then (f_X12_paidIn_23  x1 x2 v) else (f_X12_paidIn_24  x1 x2 (1 : Int32) v))
def p_X12_paidIn_0  (x1 : Int32) (x2 : Int32) (v : gV) : Prop := (p_X12_in x1 (0 : Int32) (5 : Int32) v) ∧ ((((f_X12_in x1 (0 : Int32) (5 : Int32) v) = 0) → (p_X12_paidIn_23   x1 x2 v)) ∧ (¬ ((f_X12_in x1 (0 : Int32) (5 : Int32) v) = 0) → ((p_X12_in x2 (0 : Int32) (5 : Int32) v) ∧ ((((f_X12_in x2 (0 : Int32) (5 : Int32) v) = 0) → (p_X12_paidIn_23   x1 x2 v)) ∧ (¬ ((f_X12_in x2 (0 : Int32) (5 : Int32) v) = 0) → (p_X12_paidIn_24   x1 x2 (1 : Int32) v))))))
set_option maxHeartbeats 4000000 in
set_option maxRecDepth 100000 in
theorem w_X12_paidIn_0 {E : gE} {d : Nat} {Q : gO → gS → Prop}   (hd : 1 ≤ d) (x1 : Int32) (x2 : Int32) (v : gV) (hp : p_X12_paidIn_0   x1 x2 v) (hQ : gqIV Q (f_X12_paidIn_0  x1 x2 v)) : gG E m_X12_paidIn d Q 0 0 (rS v) 0 [(0, .ref (gX E + 559)), (1, .int x1), (2, .int x2)] [] := by
  refine g_aload_n 0 dX12_paidIn_0 rfl ?_
  refine g_iload_n 1 dX12_paidIn_1 rfl ?_
  refine g_iconst dX12_paidIn_2 (0 : Int32) (by decide) ?_
  refine g_iconst dX12_paidIn_3 (5 : Int32) (by decide) ?_
  obtain ⟨h1, hp⟩ := hp
  refine g_callS (rest := [.ref (gX E + 559)]) s_X12_83 rfl (c_X12_in (E := E) (d := d - 1)   (by omega) x1 (0 : Int32) (5 : Int32) v h1) rfl rfl (Nat.le_of_ble_eq_true rfl) (by omega) (by decide) (by decide) dX12_paidIn_4 (adV ?_) axN
  refine g_if_eq 23 dX12_paidIn_7 (by decide) (fun h2 => ?_) (fun h2 => ?_)
  · have hQ := qp (P := gqIV Q) h2 hQ
    have hp := hp.1 h2
    exact w_X12_paidIn_23  hd    x1 x2 v hp hQ
  · have hQ := qn (P := gqIV Q) h2 hQ
    have hp := hp.2 h2
    refine g_iload_n 2 dX12_paidIn_10 rfl ?_
    refine g_iconst dX12_paidIn_11 (0 : Int32) (by decide) ?_
    refine g_iconst dX12_paidIn_12 (5 : Int32) (by decide) ?_
    obtain ⟨h6, hp⟩ := hp
    refine g_callS (rest := [.ref (gX E + 559)]) s_X12_83 rfl (c_X12_in (E := E) (d := d - 1)   (by omega) x2 (0 : Int32) (5 : Int32) v h6) rfl rfl (Nat.le_of_ble_eq_true rfl) (by omega) (by decide) (by decide) dX12_paidIn_13 (adV ?_) axN
    refine g_if_eq 23 dX12_paidIn_16 (by decide) (fun h7 => ?_) (fun h7 => ?_)
    · have hQ := qp (P := gqIV Q) h7 hQ
      have hp := hp.1 h7
      exact w_X12_paidIn_23  hd    x1 x2 v hp hQ
    · have hQ := qn (P := gqIV Q) h7 hQ
      have hp := hp.2 h7
      refine g_iconst dX12_paidIn_19 (1 : Int32) (by decide) ?_
      refine g_goto 24 dX12_paidIn_20 (by decide) ?_
      exact w_X12_paidIn_24  hd    x1 x2 (1 : Int32) v hp hQ
def f_X12_paidIn  (x1 : Int32) (x2 : Int32) (v : gV) : Int32 × gV := f_X12_paidIn_0 x1 x2 v
def p_X12_paidIn  (x1 : Int32) (x2 : Int32) (v : gV) : Prop := p_X12_paidIn_0 x1 x2 v
theorem c_X12_paidIn {E : gE} {d : Nat}   (hd : 1 ≤ d) (x1 : Int32) (x2 : Int32) (v : gV) (hp : p_X12_paidIn x1 x2 v) : CT E m_X12_paidIn d 0 0 [.ref (gX E + 559), .int x1, .int x2] (rS v) (Cq (.inl (some (.int ((f_X12_paidIn x1 x2 v).1)))) (f_X12_paidIn x1 x2 v).2) := CT.of ok_X12_paidIn rfl (Nat.le_of_ble_eq_true rfl) (w_X12_paidIn_0  hd x1 x2 v hp ⟨rfl, rfl⟩)
def f_X12_latest_28  (s0 : Int32) (v : gV) : Int32 := s0
def p_X12_latest_28  (s0 : Int32) (v : gV) : Prop := True
set_option maxHeartbeats 4000000 in
set_option maxRecDepth 100000 in
theorem w_X12_latest_28 {E : gE} {d : Nat} {Q : gO → gS → Prop}   (hd : 0 ≤ d) (s0 : Int32) (v : gV) (hp : p_X12_latest_28   s0 v) (hQ : gqI Q v (f_X12_latest_28  s0 v)) : gG E m_X12_latest d Q 0 0 (rS v) 28 [] [.int s0] := by
  exact g_iret rfl dX12_latest_28 hQ
def f_X12_latest_0   (v : gV) : Int32 := if ((v.1 560 (6 : Int32).toNatClampNeg) / (10 : Int32)) ≤ (5 : Int32) then (f_X12_latest_28  ((v.1 560 (6 : Int32).toNatClampNeg) / (10 : Int32)) v) else (f_X12_latest_28  (5 : Int32) v)
def p_X12_latest_0   (v : gV) : Prop := ((((v.1 560 (6 : Int32).toNatClampNeg) / (10 : Int32)) ≤ (5 : Int32)) → (p_X12_latest_28   ((v.1 560 (6 : Int32).toNatClampNeg) / (10 : Int32)) v)) ∧ (¬ (((v.1 560 (6 : Int32).toNatClampNeg) / (10 : Int32)) ≤ (5 : Int32)) → (p_X12_latest_28   (5 : Int32) v))
set_option maxHeartbeats 4000000 in
set_option maxRecDepth 100000 in
theorem w_X12_latest_0 {E : gE} {d : Nat} {Q : gO → gS → Prop}   (hd : 0 ≤ d)  (v : gV) (hp : p_X12_latest_0    v) (hQ : gqI Q v (f_X12_latest_0   v)) : gG E m_X12_latest d Q 0 0 (rS v) 0 [(0, .ref (gX E + 559))] [] := by
  refine g_aload_n 0 dX12_latest_0 rfl ?_
  refine r_get (.ref (gX E + 560)) f_X12_7_X12 rfl (by decide : kd 559 = (0, 9)) (show 559 < 572 by decide) dX12_latest_1 (fun _ => rfl) ?_
  refine g_bipush dX12_latest_4 (6 : Int32) (by decide) ?_
  refine g_iald (by decide : kd 560 = (1, 300)) (show 560 < 572 by decide) (show ¬ (_ ∨ _) by decide) dX12_latest_6 ?_
  refine g_bipush dX12_latest_7 (10 : Int32) (by decide) ?_
  refine g_idiv dX12_latest_9 (by decide) ?_
  refine g_iconst dX12_latest_10 (5 : Int32) (by decide) ?_
  refine g_icmp_le 18 dX12_latest_11 (by decide) (fun h1 => ?_) (fun h1 => ?_)
  · have hQ := qp (P := gqI Q v) h1 hQ
    have hp := hp.1 h1
    refine g_aload_n 0 dX12_latest_18 rfl ?_
    refine r_get (.ref (gX E + 560)) f_X12_7_X12 rfl (by decide : kd 559 = (0, 9)) (show 559 < 572 by decide) dX12_latest_19 (fun _ => rfl) ?_
    refine g_bipush dX12_latest_22 (6 : Int32) (by decide) ?_
    refine g_iald (by decide : kd 560 = (1, 300)) (show 560 < 572 by decide) (show ¬ (_ ∨ _) by decide) dX12_latest_24 ?_
    refine g_bipush dX12_latest_25 (10 : Int32) (by decide) ?_
    refine g_idiv dX12_latest_27 (by decide) ?_
    refine g_lv (lv' := []) [] rfl ?_
    exact w_X12_latest_28  hd    ((v.1 560 (6 : Int32).toNatClampNeg) / (10 : Int32)) v hp hQ
  · have hQ := qn (P := gqI Q v) h1 hQ
    have hp := hp.2 h1
    refine g_iconst dX12_latest_14 (5 : Int32) (by decide) ?_
    refine g_goto 28 dX12_latest_15 (by decide) ?_
    refine g_lv (lv' := []) [] rfl ?_
    exact w_X12_latest_28  hd    (5 : Int32) v hp hQ
def f_X12_latest   (v : gV) : Int32 := f_X12_latest_0  v
def p_X12_latest   (v : gV) : Prop := p_X12_latest_0  v
theorem c_X12_latest {E : gE} {d : Nat}   (hd : 0 ≤ d)  (v : gV) (hp : p_X12_latest  v) : CT E m_X12_latest d 0 0 [.ref (gX E + 559)] (rS v) (Cq (.inl (some (.int (f_X12_latest  v)))) v) := CT.of ok_X12_latest rfl (Nat.le_of_ble_eq_true rfl) (w_X12_latest_0  hd  v hp ⟨rfl, rfl⟩)
