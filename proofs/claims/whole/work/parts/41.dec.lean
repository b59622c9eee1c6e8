def f_X11_insure_25  (s0 : Int32) (v : gV) : (Int32 ⊕ String) × gV := (Sum.inl s0, v)
def p_X11_insure_25  (s0 : Int32) (v : gV) : Prop := True
set_option maxHeartbeats 4000000 in
set_option maxRecDepth 100000 in
theorem w_X11_insure_25 {E : gE} {d : Nat} {Q : gO → gS → Prop}   (hd : 11 ≤ d) (s0 : Int32) (v : gV) (hp : p_X11_insure_25   s0 v) (hQ : gqTIV Q (f_X11_insure_25  s0 v)) : gG E m_X11_insure d Q 0 0 (rS v) 25 [] [.int s0] := by
  exact g_iret rfl dX11_insure_25 hQ
def f_X11_insure_22  (s0 : Int32) (v : gV) : (Int32 ⊕ String) × gV := f_X11_insure_25  ((f_X11_changed s0 v).1) (f_X11_changed s0 v).2
def p_X11_insure_22  (s0 : Int32) (v : gV) : Prop := (p_X11_changed s0 v) ∧ (p_X11_insure_25   ((f_X11_changed s0 v).1) (f_X11_changed s0 v).2)
set_option maxHeartbeats 4000000 in
set_option maxRecDepth 100000 in
theorem w_X11_insure_22 {E : gE} {d : Nat} {Q : gO → gS → Prop}   (hd : 11 ≤ d) (s0 : Int32) (v : gV) (hp : p_X11_insure_22   s0 v) (hQ : gqTIV Q (f_X11_insure_22  s0 v)) : gG E m_X11_insure d Q 0 0 (rS v) 22 [] [.int s0, .ref (gX E + 0)] := by
  obtain ⟨h5, hp⟩ := hp
  refine g_callV (rest := []) s_X11_59_X11 rfl (c_X11_changed (E := E) (d := d - 1)   (by omega) s0 v h5) (by decide : kd 0 = (0, 8)) (show 0 < 572 by decide) rfl rfl (Nat.le_of_ble_eq_true rfl) (by omega) (by decide) (by decide) dX11_insure_22 (adV ?_) axN
  exact w_X11_insure_25  hd    ((f_X11_changed s0 v).1) (f_X11_changed s0 v).2 hp hQ
def f_X11_insure_11  (x1 : Int32) (x2 : Int32) (x3 : Int32) (v : gV) : (Int32 ⊕ String) × gV := Sum.elim (fun (sr3 : Int32) => f_X11_insure_22  sr3 (f_X1_makePolicy 1 x1 x2 x3 v).2) (fun (e : String) => (Sum.inr e, (f_X1_makePolicy 1 x1 x2 x3 v).2)) (f_X1_makePolicy 1 x1 x2 x3 v).1
def p_X11_insure_11  (x1 : Int32) (x2 : Int32) (x3 : Int32) (v : gV) : Prop := (p_X1_makePolicy 1 x1 x2 x3 v) ∧ (∀ (sr3 : Int32), (f_X1_makePolicy 1 x1 x2 x3 v).1 = Sum.inl sr3 → (p_X11_insure_22   sr3 (f_X1_makePolicy 1 x1 x2 x3 v).2))
set_option maxHeartbeats 4000000 in
set_option maxRecDepth 100000 in
theorem w_X11_insure_11 {E : gE} {d : Nat} {Q : gO → gS → Prop}   (hd : 11 ≤ d) (x1 : Int32) (x2 : Int32) (x3 : Int32) (v : gV) (hp : p_X11_insure_11   x1 x2 x3 v) (hQ : gqTIV Q (f_X11_insure_11  x1 x2 x3 v)) : gG E m_X11_insure d Q 4 24 (rS v) 11 [(0, .ref (gX E + 0)), (1, .int x1), (2, .int x2), (3, .int x3)] [] := by
  refine g_aload_n 0 dX11_insure_11 rfl ?_
  refine g_aload_n 0 dX11_insure_12 rfl ?_
  refine r_get (.ref (gX E + 1)) f_X11_10_X11 rfl (by decide : kd 0 = (0, 8)) (show 0 < 572 by decide) dX11_insure_13 (fun _ => rfl) ?_
  refine g_iload_n 1 dX11_insure_16 rfl ?_
  refine g_iload_n 2 dX11_insure_17 rfl ?_
  refine g_iload_n 3 dX11_insure_18 rfl ?_
  obtain ⟨h2, hp⟩ := hp
  refine g_callV (rest := [.ref (gX E + 0)]) s_X11_55_X1 rfl (c_X1_makePolicy (E := E) (d := d - 1) 1 isBk_1 (by omega) x1 x2 x3 v h2) (kbz isBk_1) (lt_b0 isBk_1) rfl rfl (Nat.le_of_ble_eq_true rfl) (by omega) (by decide) (by decide) dX11_insure_19 (adTI (fun sr3 h4 => ?_)) (axTI (fun e h4 => g_outs rfl rfl (qe (P := gqTIV Q) h4 hQ)))
  have hQ := ql (P := gqTIV Q) h4 hQ
  have hp := hp sr3 h4
  refine g_lv (lv' := []) [] rfl ?_
  exact w_X11_insure_22  hd    sr3 (f_X1_makePolicy 1 x1 x2 x3 v).2 hp hQ
def f_X11_insure_0  (x1 : Int32) (x2 : Int32) (x3 : Int32) (v : gV) : (Int32 ⊕ String) × gV := f_X11_insure_11  x1 x2 x3 (f_X3_prepare 1 v)
def p_X11_insure_0  (x1 : Int32) (x2 : Int32) (x3 : Int32) (v : gV) : Prop := (p_X3_prepare 1 v) ∧ (p_X11_insure_11   x1 x2 x3 (f_X3_prepare 1 v))
set_option maxHeartbeats 4000000 in
set_option maxRecDepth 100000 in
theorem w_X11_insure_0 {E : gE} {d : Nat} {Q : gO → gS → Prop}   (hd : 11 ≤ d) (x1 : Int32) (x2 : Int32) (x3 : Int32) (v : gV) (hp : p_X11_insure_0   x1 x2 x3 v) (hQ : gqTIV Q (f_X11_insure_0  x1 x2 x3 v)) : gG E m_X11_insure d Q 4 24 (rS v) 0 [(0, .ref (gX E + 0)), (1, .int x1), (2, .int x2), (3, .int x3)] [] := by
  refine g_aload_n 0 dX11_insure_0 rfl ?_
  refine r_get (.ref (gX E + 101)) f_X11_22_X11 rfl (by decide : kd 0 = (0, 8)) (show 0 < 572 by decide) dX11_insure_1 (fun _ => rfl) ?_
  refine g_aload_n 0 dX11_insure_4 rfl ?_
  refine r_get (.ref (gX E + 1)) f_X11_10_X11 rfl (by decide : kd 0 = (0, 8)) (show 0 < 572 by decide) dX11_insure_5 (fun _ => rfl) ?_
  obtain ⟨h1, hp⟩ := hp
  refine g_callV (rest := []) s_X11_51_X3 rfl (c_X3_prepare (E := E) (d := d - 1) 1 isBk_1 (by omega)  v h1) (by decide : kd 101 = (0, 2)) (show 101 < 572 by decide) rfl rfl (Nat.le_of_ble_eq_true rfl) (by omega) (by decide) (by decide) dX11_insure_8 (adN ?_) axN
  exact w_X11_insure_11  hd    x1 x2 x3 (f_X3_prepare 1 v) hp hQ
def f_X11_insure  (x1 : Int32) (x2 : Int32) (x3 : Int32) (v : gV) : (Int32 ⊕ String) × gV := f_X11_insure_0 x1 x2 x3 v
def p_X11_insure  (x1 : Int32) (x2 : Int32) (x3 : Int32) (v : gV) : Prop := p_X11_insure_0 x1 x2 x3 v
theorem c_X11_insure {E : gE} {d : Nat}   (hd : 11 ≤ d) (x1 : Int32) (x2 : Int32) (x3 : Int32) (v : gV) (hp : p_X11_insure x1 x2 x3 v) : CT E m_X11_insure d 4 24 [.ref (gX E + 0), .int x1, .int x2, .int x3] (rS v) (Cq (gOi (f_X11_insure x1 x2 x3 v).1) (f_X11_insure x1 x2 x3 v).2) := CT.of ok_X11_insure rfl (Nat.le_of_ble_eq_true rfl) (w_X11_insure_0  hd x1 x2 x3 v hp ⟨rfl, rfl⟩)
def f_X11_endPolicy_23  (s0 : Int32) (v : gV) : (Int32 ⊕ String) × gV := (Sum.inl s0, v)
def p_X11_endPolicy_23  (s0 : Int32) (v : gV) : Prop := True
set_option maxHeartbeats 4000000 in
set_option maxRecDepth 100000 in
theorem w_X11_endPolicy_23 {E : gE} {d : Nat} {Q : gO → gS → Prop}   (hd : 9 ≤ d) (s0 : Int32) (v : gV) (hp : p_X11_endPolicy_23   s0 v) (hQ : gqTIV Q (f_X11_endPolicy_23  s0 v)) : gG E m_X11_endPolicy d Q 0 0 (rS v) 23 [] [.int s0] := by
  exact g_iret rfl dX11_endPolicy_23 hQ
def f_X11_endPolicy_20  (s0 : Int32) (v : gV) : (Int32 ⊕ String) × gV := f_X11_endPolicy_23  ((f_X11_changed s0 v).1) (f_X11_changed s0 v).2
def p_X11_endPolicy_20  (s0 : Int32) (v : gV) : Prop := (p_X11_changed s0 v) ∧ (p_X11_endPolicy_23   ((f_X11_changed s0 v).1) (f_X11_changed s0 v).2)
set_option maxHeartbeats 4000000 in
set_option maxRecDepth 100000 in
theorem w_X11_endPolicy_20 {E : gE} {d : Nat} {Q : gO → gS → Prop}   (hd : 9 ≤ d) (s0 : Int32) (v : gV) (hp : p_X11_endPolicy_20   s0 v) (hQ : gqTIV Q (f_X11_endPolicy_20  s0 v)) : gG E m_X11_endPolicy d Q 0 0 (rS v) 20 [] [.int s0, .ref (gX E + 0)] := by
  obtain ⟨h5, hp⟩ := hp
  refine g_callV (rest := []) s_X11_59_X11 rfl (c_X11_changed (E := E) (d := d - 1)   (by omega) s0 v h5) (by decide : kd 0 = (0, 8)) (show 0 < 572 by decide) rfl rfl (Nat.le_of_ble_eq_true rfl) (by omega) (by decide) (by decide) dX11_endPolicy_20 (adV ?_) axN
  exact w_X11_endPolicy_23  hd    ((f_X11_changed s0 v).1) (f_X11_changed s0 v).2 hp hQ
def f_X11_endPolicy_11  (x1 : Int32) (v : gV) : (Int32 ⊕ String) × gV := Sum.elim (fun (sr3 : Int32) => f_X11_endPolicy_20  sr3 (f_X1_removePolicy 1 x1 v).2) (fun (e : String) => (Sum.inr e, (f_X1_removePolicy 1 x1 v).2)) (f_X1_removePolicy 1 x1 v).1
def p_X11_endPolicy_11  (x1 : Int32) (v : gV) : Prop := (p_X1_removePolicy 1 x1 v) ∧ (∀ (sr3 : Int32), (f_X1_removePolicy 1 x1 v).1 = Sum.inl sr3 → (p_X11_endPolicy_20   sr3 (f_X1_removePolicy 1 x1 v).2))
set_option maxHeartbeats 4000000 in
set_option maxRecDepth 100000 in
theorem w_X11_endPolicy_11 {E : gE} {d : Nat} {Q : gO → gS → Prop}   (hd : 9 ≤ d) (x1 : Int32) (v : gV) (hp : p_X11_endPolicy_11   x1 v) (hQ : gqTIV Q (f_X11_endPolicy_11  x1 v)) : gG E m_X11_endPolicy d Q 2 12 (rS v) 11 [(0, .ref (gX E + 0)), (1, .int x1)] [] := by
  refine g_aload_n 0 dX11_endPolicy_11 rfl ?_
  refine g_aload_n 0 dX11_endPolicy_12 rfl ?_
  refine r_get (.ref (gX E + 1)) f_X11_10_X11 rfl (by decide : kd 0 = (0, 8)) (show 0 < 572 by decide) dX11_endPolicy_13 (fun _ => rfl) ?_
  refine g_iload_n 1 dX11_endPolicy_16 rfl ?_
  obtain ⟨h2, hp⟩ := hp
  refine g_callV (rest := [.ref (gX E + 0)]) s_X11_63_X1 rfl (c_X1_removePolicy (E := E) (d := d - 1) 1 isBk_1 (by omega) x1 v h2) (kbz isBk_1) (lt_b0 isBk_1) rfl rfl (Nat.le_of_ble_eq_true rfl) (by omega) (by decide) (by decide) dX11_endPolicy_17 (adTI (fun sr3 h4 => ?_)) (axTI (fun e h4 => g_outs rfl rfl (qe (P := gqTIV Q) h4 hQ)))
  have hQ := ql (P := gqTIV Q) h4 hQ
  have hp := hp sr3 h4
  refine g_lv (lv' := []) [] rfl ?_
  exact w_X11_endPolicy_20  hd    sr3 (f_X1_removePolicy 1 x1 v).2 hp hQ
def f_X11_endPolicy_0  (x1 : Int32) (v : gV) : (Int32 ⊕ String) × gV := f_X11_endPolicy_11  x1 (f_X3_prepare 1 v)
def p_X11_endPolicy_0  (x1 : Int32) (v : gV) : Prop := (p_X3_prepare 1 v) ∧ (p_X11_endPolicy_11   x1 (f_X3_prepare 1 v))
set_option maxHeartbeats 4000000 in
set_option maxRecDepth 100000 in
theorem w_X11_endPolicy_0 {E : gE} {d : Nat} {Q : gO → gS → Prop}   (hd : 9 ≤ d) (x1 : Int32) (v : gV) (hp : p_X11_endPolicy_0   x1 v) (hQ : gqTIV Q (f_X11_endPolicy_0  x1 v)) : gG E m_X11_endPolicy d Q 2 12 (rS v) 0 [(0, .ref (gX E + 0)), (1, .int x1)] [] := by
  refine g_aload_n 0 dX11_endPolicy_0 rfl ?_
  refine r_get (.ref (gX E + 101)) f_X11_22_X11 rfl (by decide : kd 0 = (0, 8)) (show 0 < 572 by decide) dX11_endPolicy_1 (fun _ => rfl) ?_
  refine g_aload_n 0 dX11_endPolicy_4 rfl ?_
  refine r_get (.ref (gX E + 1)) f_X11_10_X11 rfl (by decide : kd 0 = (0, 8)) (show 0 < 572 by decide) dX11_endPolicy_5 (fun _ => rfl) ?_
  obtain ⟨h1, hp⟩ := hp
  refine g_callV (rest := []) s_X11_51_X3 rfl (c_X3_prepare (E := E) (d := d - 1) 1 isBk_1 (by omega)  v h1) (by decide : kd 101 = (0, 2)) (show 101 < 572 by decide) rfl rfl (Nat.le_of_ble_eq_true rfl) (by omega) (by decide) (by decide) dX11_endPolicy_8 (adN ?_) axN
  exact w_X11_endPolicy_11  hd    x1 (f_X3_prepare 1 v) hp hQ
def f_X11_endPolicy  (x1 : Int32) (v : gV) : (Int32 ⊕ String) × gV := f_X11_endPolicy_0 x1 v
def p_X11_endPolicy  (x1 : Int32) (v : gV) : Prop := p_X11_endPolicy_0 x1 v
theorem c_X11_endPolicy {E : gE} {d : Nat}   (hd : 9 ≤ d) (x1 : Int32) (v : gV) (hp : p_X11_endPolicy x1 v) : CT E m_X11_endPolicy d 2 12 [.ref (gX E + 0), .int x1] (rS v) (Cq (gOi (f_X11_endPolicy x1 v).1) (f_X11_endPolicy x1 v).2) := CT.of ok_X11_endPolicy rfl (Nat.le_of_ble_eq_true rfl) (w_X11_endPolicy_0  hd x1 v hp ⟨rfl, rfl⟩)
def f_X11_addTreaty_27  (s0 : Int32) (v : gV) : (Int32 ⊕ String) × gV := (Sum.inl s0, v)
def p_X11_addTreaty_27  (s0 : Int32) (v : gV) : Prop := True
set_option maxHeartbeats 4000000 in
set_option maxRecDepth 100000 in
theorem w_X11_addTreaty_27 {E : gE} {d : Nat} {Q : gO → gS → Prop}   (hd : 10 ≤ d) (s0 : Int32) (v : gV) (hp : p_X11_addTreaty_27   s0 v) (hQ : gqTIV Q (f_X11_addTreaty_27  s0 v)) : gG E m_X11_addTreaty d Q 0 0 (rS v) 27 [] [.int s0] := by
  exact g_iret rfl dX11_addTreaty_27 hQ
def f_X11_addTreaty_24  (s0 : Int32) (v : gV) : (Int32 ⊕ String) × gV := f_X11_addTreaty_27  ((f_X11_changed s0 v).1) (f_X11_changed s0 v).2
def p_X11_addTreaty_24  (s0 : Int32) (v : gV) : Prop := (p_X11_changed s0 v) ∧ (p_X11_addTreaty_27   ((f_X11_changed s0 v).1) (f_X11_changed s0 v).2)
set_option maxHeartbeats 4000000 in
set_option maxRecDepth 100000 in
theorem w_X11_addTreaty_24 {E : gE} {d : Nat} {Q : gO → gS → Prop}   (hd : 10 ≤ d) (s0 : Int32) (v : gV) (hp : p_X11_addTreaty_24   s0 v) (hQ : gqTIV Q (f_X11_addTreaty_24  s0 v)) : gG E m_X11_addTreaty d Q 0 0 (rS v) 24 [] [.int s0, .ref (gX E + 0)] := by
  obtain ⟨h5, hp⟩ := hp
  refine g_callV (rest := []) s_X11_59_X11 rfl (c_X11_changed (E := E) (d := d - 1)   (by omega) s0 v h5) (by decide : kd 0 = (0, 8)) (show 0 < 572 by decide) rfl rfl (Nat.le_of_ble_eq_true rfl) (by omega) (by decide) (by decide) dX11_addTreaty_24 (adV ?_) axN
  exact w_X11_addTreaty_27  hd    ((f_X11_changed s0 v).1) (f_X11_changed s0 v).2 hp hQ
def f_X11_addTreaty_11  (x1 : Int32) (x2 : Int32) (x3 : Int32) (x4 : Int32) (v : gV) : (Int32 ⊕ String) × gV := Sum.elim (fun (sr3 : Int32) => f_X11_addTreaty_24  sr3 (f_X1_makeTreaty 1 x1 x2 x3 x4 v).2) (fun (e : String) => (Sum.inr e, (f_X1_makeTreaty 1 x1 x2 x3 x4 v).2)) (f_X1_makeTreaty 1 x1 x2 x3 x4 v).1
def p_X11_addTreaty_11  (x1 : Int32) (x2 : Int32) (x3 : Int32) (x4 : Int32) (v : gV) : Prop := (p_X1_makeTreaty 1 x1 x2 x3 x4 v) ∧ (∀ (sr3 : Int32), (f_X1_makeTreaty 1 x1 x2 x3 x4 v).1 = Sum.inl sr3 → (p_X11_addTreaty_24   sr3 (f_X1_makeTreaty 1 x1 x2 x3 x4 v).2))
set_option maxHeartbeats 4000000 in
set_option maxRecDepth 100000 in
theorem w_X11_addTreaty_11 {E : gE} {d : Nat} {Q : gO → gS → Prop}   (hd : 10 ≤ d) (x1 : Int32) (x2 : Int32) (x3 : Int32) (x4 : Int32) (v : gV) (hp : p_X11_addTreaty_11   x1 x2 x3 x4 v) (hQ : gqTIV Q (f_X11_addTreaty_11  x1 x2 x3 x4 v)) : gG E m_X11_addTreaty d Q 5 30 (rS v) 11 [(0, .ref (gX E + 0)), (1, .int x1), (2, .int x2), (3, .int x3), (4, .int x4)] [] := by
  refine g_aload_n 0 dX11_addTreaty_11 rfl ?_
  refine g_aload_n 0 dX11_addTreaty_12 rfl ?_
  refine r_get (.ref (gX E + 1)) f_X11_10_X11 rfl (by decide : kd 0 = (0, 8)) (show 0 < 572 by decide) dX11_addTreaty_13 (fun _ => rfl) ?_
  refine g_iload_n 1 dX11_addTreaty_16 rfl ?_
  refine g_iload_n 2 dX11_addTreaty_17 rfl ?_
  refine g_iload_n 3 dX11_addTreaty_18 rfl ?_
  refine g_iload 4 dX11_addTreaty_19 rfl ?_
  obtain ⟨h2, hp⟩ := hp
  refine g_callV (rest := [.ref (gX E + 0)]) s_X11_66_X1 rfl (c_X1_makeTreaty (E := E) (d := d - 1) 1 isBk_1 (by omega) x1 x2 x3 x4 v h2) (kbz isBk_1) (lt_b0 isBk_1) rfl rfl (Nat.le_of_ble_eq_true rfl) (by omega) (by decide) (by decide) dX11_addTreaty_21 (adTI (fun sr3 h4 => ?_)) (axTI (fun e h4 => g_outs rfl rfl (qe (P := gqTIV Q) h4 hQ)))
  have hQ := ql (P := gqTIV Q) h4 hQ
  have hp := hp sr3 h4
  refine g_lv (lv' := []) [] rfl ?_
  exact w_X11_addTreaty_24  hd    sr3 (f_X1_makeTreaty 1 x1 x2 x3 x4 v).2 hp hQ
def f_X11_addTreaty_0  (x1 : Int32) (x2 : Int32) (x3 : Int32) (x4 : Int32) (v : gV) : (Int32 ⊕ String) × gV := f_X11_addTreaty_11  x1 x2 x3 x4 (f_X3_prepare 1 v)
def p_X11_addTreaty_0  (x1 : Int32) (x2 : Int32) (x3 : Int32) (x4 : Int32) (v : gV) : Prop := (p_X3_prepare 1 v) ∧ (p_X11_addTreaty_11   x1 x2 x3 x4 (f_X3_prepare 1 v))
set_option maxHeartbeats 4000000 in
set_option maxRecDepth 100000 in
theorem w_X11_addTreaty_0 {E : gE} {d : Nat} {Q : gO → gS → Prop}   (hd : 10 ≤ d) (x1 : Int32) (x2 : Int32) (x3 : Int32) (x4 : Int32) (v : gV) (hp : p_X11_addTreaty_0   x1 x2 x3 x4 v) (hQ : gqTIV Q (f_X11_addTreaty_0  x1 x2 x3 x4 v)) : gG E m_X11_addTreaty d Q 5 30 (rS v) 0 [(0, .ref (gX E + 0)), (1, .int x1), (2, .int x2), (3, .int x3), (4, .int x4)] [] := by
  refine g_aload_n 0 dX11_addTreaty_0 rfl ?_
  refine r_get (.ref (gX E + 101)) f_X11_22_X11 rfl (by decide : kd 0 = (0, 8)) (show 0 < 572 by decide) dX11_addTreaty_1 (fun _ => rfl) ?_
  refine g_aload_n 0 dX11_addTreaty_4 rfl ?_
  refine r_get (.ref (gX E + 1)) f_X11_10_X11 rfl (by decide : kd 0 = (0, 8)) (show 0 < 572 by decide) dX11_addTreaty_5 (fun _ => rfl) ?_
  obtain ⟨h1, hp⟩ := hp
  refine g_callV (rest := []) s_X11_51_X3 rfl (c_X3_prepare (E := E) (d := d - 1) 1 isBk_1 (by omega)  v h1) (by decide : kd 101 = (0, 2)) (show 101 < 572 by decide) rfl rfl (Nat.le_of_ble_eq_true rfl) (by omega) (by decide) (by decide) dX11_addTreaty_8 (adN ?_) axN
  exact w_X11_addTreaty_11  hd    x1 x2 x3 x4 (f_X3_prepare 1 v) hp hQ
def f_X11_addTreaty  (x1 : Int32) (x2 : Int32) (x3 : Int32) (x4 : Int32) (v : gV) : (Int32 ⊕ String) × gV := f_X11_addTreaty_0 x1 x2 x3 x4 v
def p_X11_addTreaty  (x1 : Int32) (x2 : Int32) (x3 : Int32) (x4 : Int32) (v : gV) : Prop := p_X11_addTreaty_0 x1 x2 x3 x4 v
theorem c_X11_addTreaty {E : gE} {d : Nat}   (hd : 10 ≤ d) (x1 : Int32) (x2 : Int32) (x3 : Int32) (x4 : Int32) (v : gV) (hp : p_X11_addTreaty x1 x2 x3 x4 v) : CT E m_X11_addTreaty d 5 30 [.ref (gX E + 0), .int x1, .int x2, .int x3, .int x4] (rS v) (Cq (gOi (f_X11_addTreaty x1 x2 x3 x4 v).1) (f_X11_addTreaty x1 x2 x3 x4 v).2) := CT.of ok_X11_addTreaty rfl (Nat.le_of_ble_eq_true rfl) (w_X11_addTreaty_0  hd x1 x2 x3 x4 v hp ⟨rfl, rfl⟩)
def f_X11_dropTreaty_23  (s0 : Int32) (v : gV) : (Int32 ⊕ String) × gV := (Sum.inl s0, v)
def p_X11_dropTreaty_23  (s0 : Int32) (v : gV) : Prop := True
set_option maxHeartbeats 4000000 in
set_option maxRecDepth 100000 in
theorem w_X11_dropTreaty_23 {E : gE} {d : Nat} {Q : gO → gS → Prop}   (hd : 9 ≤ d) (s0 : Int32) (v : gV) (hp : p_X11_dropTreaty_23   s0 v) (hQ : gqTIV Q (f_X11_dropTreaty_23  s0 v)) : gG E m_X11_dropTreaty d Q 0 0 (rS v) 23 [] [.int s0] := by
  exact g_iret rfl dX11_dropTreaty_23 hQ
def f_X11_dropTreaty_20  (s0 : Int32) (v : gV) : (Int32 ⊕ String) × gV := f_X11_dropTreaty_23  ((f_X11_changed s0 v).1) (f_X11_changed s0 v).2
def p_X11_dropTreaty_20  (s0 : Int32) (v : gV) : Prop := (p_X11_changed s0 v) ∧ (p_X11_dropTreaty_23   ((f_X11_changed s0 v).1) (f_X11_changed s0 v).2)
set_option maxHeartbeats 4000000 in
set_option maxRecDepth 100000 in
theorem w_X11_dropTreaty_20 {E : gE} {d : Nat} {Q : gO → gS → Prop}   (hd : 9 ≤ d) (s0 : Int32) (v : gV) (hp : p_X11_dropTreaty_20   s0 v) (hQ : gqTIV Q (f_X11_dropTreaty_20  s0 v)) : gG E m_X11_dropTreaty d Q 0 0 (rS v) 20 [] [.int s0, .ref (gX E + 0)] := by
  obtain ⟨h5, hp⟩ := hp
  refine g_callV (rest := []) s_X11_59_X11 rfl (c_X11_changed (E := E) (d := d - 1)   (by omega) s0 v h5) (by decide : kd 0 = (0, 8)) (show 0 < 572 by decide) rfl rfl (Nat.le_of_ble_eq_true rfl) (by omega) (by decide) (by decide) dX11_dropTreaty_20 (adV ?_) axN
  exact w_X11_dropTreaty_23  hd    ((f_X11_changed s0 v).1) (f_X11_changed s0 v).2 hp hQ
def f_X11_dropTreaty_11  (x1 : Int32) (v : gV) : (Int32 ⊕ String) × gV := Sum.elim (fun (sr3 : Int32) => f_X11_dropTreaty_20  sr3 (f_X1_removeTreaty 1 x1 v).2) (fun (e : String) => (Sum.inr e, (f_X1_removeTreaty 1 x1 v).2)) (f_X1_removeTreaty 1 x1 v).1
def p_X11_dropTreaty_11  (x1 : Int32) (v : gV) : Prop := (p_X1_removeTreaty 1 x1 v) ∧ (∀ (sr3 : Int32), (f_X1_removeTreaty 1 x1 v).1 = Sum.inl sr3 → (p_X11_dropTreaty_20   sr3 (f_X1_removeTreaty 1 x1 v).2))
set_option maxHeartbeats 4000000 in
set_option maxRecDepth 100000 in
theorem w_X11_dropTreaty_11 {E : gE} {d : Nat} {Q : gO → gS → Prop}   (hd : 9 ≤ d) (x1 : Int32) (v : gV) (hp : p_X11_dropTreaty_11   x1 v) (hQ : gqTIV Q (f_X11_dropTreaty_11  x1 v)) : gG E m_X11_dropTreaty d Q 2 12 (rS v) 11 [(0, .ref (gX E + 0)), (1, .int x1)] [] := by
  refine g_aload_n 0 dX11_dropTreaty_11 rfl ?_
  refine g_aload_n 0 dX11_dropTreaty_12 rfl ?_
  refine r_get (.ref (gX E + 1)) f_X11_10_X11 rfl (by decide : kd 0 = (0, 8)) (show 0 < 572 by decide) dX11_dropTreaty_13 (fun _ => rfl) ?_
  refine g_iload_n 1 dX11_dropTreaty_16 rfl ?_
  obtain ⟨h2, hp⟩ := hp
  refine g_callV (rest := [.ref (gX E + 0)]) s_X11_70_X1 rfl (c_X1_removeTreaty (E := E) (d := d - 1) 1 isBk_1 (by omega) x1 v h2) (kbz isBk_1) (lt_b0 isBk_1) rfl rfl (Nat.le_of_ble_eq_true rfl) (by omega) (by decide) (by decide) dX11_dropTreaty_17 (adTI (fun sr3 h4 => ?_)) (axTI (fun e h4 => g_outs rfl rfl (qe (P := gqTIV Q) h4 hQ)))
  have hQ := ql (P := gqTIV Q) h4 hQ
  have hp := hp sr3 h4
  refine g_lv (lv' := []) [] rfl ?_
  exact w_X11_dropTreaty_20  hd    sr3 (f_X1_removeTreaty 1 x1 v).2 hp hQ
def f_X11_dropTreaty_0  (x1 : Int32) (v : gV) : (Int32 ⊕ String) × gV := f_X11_dropTreaty_11  x1 (f_X3_prepare 1 v)
def p_X11_dropTreaty_0  (x1 : Int32) (v : gV) : Prop := (p_X3_prepare 1 v) ∧ (p_X11_dropTreaty_11   x1 (f_X3_prepare 1 v))
set_option maxHeartbeats 4000000 in
set_option maxRecDepth 100000 in
theorem w_X11_dropTreaty_0 {E : gE} {d : Nat} {Q : gO → gS → Prop}   (hd : 9 ≤ d) (x1 : Int32) (v : gV) (hp : p_X11_dropTreaty_0   x1 v) (hQ : gqTIV Q (f_X11_dropTreaty_0  x1 v)) : gG E m_X11_dropTreaty d Q 2 12 (rS v) 0 [(0, .ref (gX E + 0)), (1, .int x1)] [] := by
  refine g_aload_n 0 dX11_dropTreaty_0 rfl ?_
  refine r_get (.ref (gX E + 101)) f_X11_22_X11 rfl (by decide : kd 0 = (0, 8)) (show 0 < 572 by decide) dX11_dropTreaty_1 (fun _ => rfl) ?_
  refine g_aload_n 0 dX11_dropTreaty_4 rfl ?_
  refine r_get (.ref (gX E + 1)) f_X11_10_X11 rfl (by decide : kd 0 = (0, 8)) (show 0 < 572 by decide) dX11_dropTreaty_5 (fun _ => rfl) ?_
  obtain ⟨h1, hp⟩ := hp
  refine g_callV (rest := []) s_X11_51_X3 rfl (c_X3_prepare (E := E) (d := d - 1) 1 isBk_1 (by omega)  v h1) (by decide : kd 101 = (0, 2)) (show 101 < 572 by decide) rfl rfl (Nat.le_of_ble_eq_true rfl) (by omega) (by decide) (by decide) dX11_dropTreaty_8 (adN ?_) axN
  exact w_X11_dropTreaty_11  hd    x1 (f_X3_prepare 1 v) hp hQ
def f_X11_dropTreaty  (x1 : Int32) (v : gV) : (Int32 ⊕ String) × gV := f_X11_dropTreaty_0 x1 v
def p_X11_dropTreaty  (x1 : Int32) (v : gV) : Prop := p_X11_dropTreaty_0 x1 v
theorem c_X11_dropTreaty {E : gE} {d : Nat}   (hd : 9 ≤ d) (x1 : Int32) (v : gV) (hp : p_X11_dropTreaty x1 v) : CT E m_X11_dropTreaty d 2 12 [.ref (gX E + 0), .int x1] (rS v) (Cq (gOi (f_X11_dropTreaty x1 v).1) (f_X11_dropTreaty x1 v).2) := CT.of ok_X11_dropTreaty rfl (Nat.le_of_ble_eq_true rfl) (w_X11_dropTreaty_0  hd x1 v hp ⟨rfl, rfl⟩)
def f_X11_claim_25  (s0 : Int32) (v : gV) : (Int32 ⊕ String) × gV := (Sum.inl s0, v)
def p_X11_claim_25  (s0 : Int32) (v : gV) : Prop := True
set_option maxHeartbeats 4000000 in
set_option maxRecDepth 100000 in
theorem w_X11_claim_25 {E : gE} {d : Nat} {Q : gO → gS → Prop}   (hd : 11 ≤ d) (s0 : Int32) (v : gV) (hp : p_X11_claim_25   s0 v) (hQ : gqTIV Q (f_X11_claim_25  s0 v)) : gG E m_X11_claim d Q 0 0 (rS v) 25 [] [.int s0] := by
  exact g_iret rfl dX11_claim_25 hQ
def f_X11_claim_22  (s0 : Int32) (v : gV) : (Int32 ⊕ String) × gV := f_X11_claim_25  ((f_X11_changed s0 v).1) (f_X11_changed s0 v).2
def p_X11_claim_22  (s0 : Int32) (v : gV) : Prop := (p_X11_changed s0 v) ∧ (p_X11_claim_25   ((f_X11_changed s0 v).1) (f_X11_changed s0 v).2)
set_option maxHeartbeats 4000000 in
set_option maxRecDepth 100000 in
theorem w_X11_claim_22 {E : gE} {d : Nat} {Q : gO → gS → Prop}   (hd : 11 ≤ d) (s0 : Int32) (v : gV) (hp : p_X11_claim_22   s0 v) (hQ : gqTIV Q (f_X11_claim_22  s0 v)) : gG E m_X11_claim d Q 0 0 (rS v) 22 [] [.int s0, .ref (gX E + 0)] := by
  obtain ⟨h5, hp⟩ := hp
  refine g_callV (rest := []) s_X11_59_X11 rfl (c_X11_changed (E := E) (d := d - 1)   (by omega) s0 v h5) (by decide : kd 0 = (0, 8)) (show 0 < 572 by decide) rfl rfl (Nat.le_of_ble_eq_true rfl) (by omega) (by decide) (by decide) dX11_claim_22 (adV ?_) axN
  exact w_X11_claim_25  hd    ((f_X11_changed s0 v).1) (f_X11_changed s0 v).2 hp hQ
def f_X11_claim_11  (x1 : Int32) (x2 : Int32) (x3 : Int32) (v : gV) : (Int32 ⊕ String) × gV := Sum.elim (fun (sr3 : Int32) => f_X11_claim_22  sr3 (f_X1_makeClaim 1 x1 x2 x3 v).2) (fun (e : String) => (Sum.inr e, (f_X1_makeClaim 1 x1 x2 x3 v).2)) (f_X1_makeClaim 1 x1 x2 x3 v).1
def p_X11_claim_11  (x1 : Int32) (x2 : Int32) (x3 : Int32) (v : gV) : Prop := (p_X1_makeClaim 1 x1 x2 x3 v) ∧ (∀ (sr3 : Int32), (f_X1_makeClaim 1 x1 x2 x3 v).1 = Sum.inl sr3 → (p_X11_claim_22   sr3 (f_X1_makeClaim 1 x1 x2 x3 v).2))
set_option maxHeartbeats 4000000 in
set_option maxRecDepth 100000 in
theorem w_X11_claim_11 {E : gE} {d : Nat} {Q : gO → gS → Prop}   (hd : 11 ≤ d) (x1 : Int32) (x2 : Int32) (x3 : Int32) (v : gV) (hp : p_X11_claim_11   x1 x2 x3 v) (hQ : gqTIV Q (f_X11_claim_11  x1 x2 x3 v)) : gG E m_X11_claim d Q 3 18 (rS v) 11 [(0, .ref (gX E + 0)), (1, .int x1), (2, .int x2), (3, .int x3)] [] := by
  refine g_aload_n 0 dX11_claim_11 rfl ?_
  refine g_aload_n 0 dX11_claim_12 rfl ?_
  refine r_get (.ref (gX E + 1)) f_X11_10_X11 rfl (by decide : kd 0 = (0, 8)) (show 0 < 572 by decide) dX11_claim_13 (fun _ => rfl) ?_
  refine g_iload_n 1 dX11_claim_16 rfl ?_
  refine g_iload_n 2 dX11_claim_17 rfl ?_
  refine g_iload_n 3 dX11_claim_18 rfl ?_
  obtain ⟨h2, hp⟩ := hp
  refine g_callV (rest := [.ref (gX E + 0)]) s_X11_73_X1 rfl (c_X1_makeClaim (E := E) (d := d - 1) 1 isBk_1 (by omega) x1 x2 x3 v h2) (kbz isBk_1) (lt_b0 isBk_1) rfl rfl (Nat.le_of_ble_eq_true rfl) (by omega) (by decide) (by decide) dX11_claim_19 (adTI (fun sr3 h4 => ?_)) (axTI (fun e h4 => g_outs rfl rfl (qe (P := gqTIV Q) h4 hQ)))
  have hQ := ql (P := gqTIV Q) h4 hQ
  have hp := hp sr3 h4
  refine g_lv (lv' := []) [] rfl ?_
  exact w_X11_claim_22  hd    sr3 (f_X1_makeClaim 1 x1 x2 x3 v).2 hp hQ
def f_X11_claim_0  (x1 : Int32) (x2 : Int32) (x3 : Int32) (v : gV) : (Int32 ⊕ String) × gV := f_X11_claim_11  x1 x2 x3 (f_X3_prepare 1 v)
def p_X11_claim_0  (x1 : Int32) (x2 : Int32) (x3 : Int32) (v : gV) : Prop := (p_X3_prepare 1 v) ∧ (p_X11_claim_11   x1 x2 x3 (f_X3_prepare 1 v))
set_option maxHeartbeats 4000000 in
set_option maxRecDepth 100000 in
theorem w_X11_claim_0 {E : gE} {d : Nat} {Q : gO → gS → Prop}   (hd : 11 ≤ d) (x1 : Int32) (x2 : Int32) (x3 : Int32) (v : gV) (hp : p_X11_claim_0   x1 x2 x3 v) (hQ : gqTIV Q (f_X11_claim_0  x1 x2 x3 v)) : gG E m_X11_claim d Q 3 18 (rS v) 0 [(0, .ref (gX E + 0)), (1, .int x1), (2, .int x2), (3, .int x3)] [] := by
  refine g_aload_n 0 dX11_claim_0 rfl ?_
  refine r_get (.ref (gX E + 101)) f_X11_22_X11 rfl (by decide : kd 0 = (0, 8)) (show 0 < 572 by decide) dX11_claim_1 (fun _ => rfl) ?_
  refine g_aload_n 0 dX11_claim_4 rfl ?_
  refine r_get (.ref (gX E + 1)) f_X11_10_X11 rfl (by decide : kd 0 = (0, 8)) (show 0 < 572 by decide) dX11_claim_5 (fun _ => rfl) ?_
  obtain ⟨h1, hp⟩ := hp
  refine g_callV (rest := []) s_X11_51_X3 rfl (c_X3_prepare (E := E) (d := d - 1) 1 isBk_1 (by omega)  v h1) (by decide : kd 101 = (0, 2)) (show 101 < 572 by decide) rfl rfl (Nat.le_of_ble_eq_true rfl) (by omega) (by decide) (by decide) dX11_claim_8 (adN ?_) axN
  exact w_X11_claim_11  hd    x1 x2 x3 (f_X3_prepare 1 v) hp hQ
def f_X11_claim  (x1 : Int32) (x2 : Int32) (x3 : Int32) (v : gV) : (Int32 ⊕ String) × gV := f_X11_claim_0 x1 x2 x3 v
def p_X11_claim  (x1 : Int32) (x2 : Int32) (x3 : Int32) (v : gV) : Prop := p_X11_claim_0 x1 x2 x3 v
theorem c_X11_claim {E : gE} {d : Nat}   (hd : 11 ≤ d) (x1 : Int32) (x2 : Int32) (x3 : Int32) (v : gV) (hp : p_X11_claim x1 x2 x3 v) : CT E m_X11_claim d 3 18 [.ref (gX E + 0), .int x1, .int x2, .int x3] (rS v) (Cq (gOi (f_X11_claim x1 x2 x3 v).1) (f_X11_claim x1 x2 x3 v).2) := CT.of ok_X11_claim rfl (Nat.le_of_ble_eq_true rfl) (w_X11_claim_0  hd x1 x2 x3 v hp ⟨rfl, rfl⟩)
def f_X11_pay_24  (s0 : Int32) (v : gV) : (Int32 ⊕ String) × gV := (Sum.inl s0, v)
def p_X11_pay_24  (s0 : Int32) (v : gV) : Prop := True
set_option maxHeartbeats 4000000 in
set_option maxRecDepth 100000 in
theorem w_X11_pay_24 {E : gE} {d : Nat} {Q : gO → gS → Prop}   (hd : 9 ≤ d) (s0 : Int32) (v : gV) (hp : p_X11_pay_24   s0 v) (hQ : gqTIV Q (f_X11_pay_24  s0 v)) : gG E m_X11_pay d Q 0 0 (rS v) 24 [] [.int s0] := by
  exact g_iret rfl dX11_pay_24 hQ
def f_X11_pay_21  (s0 : Int32) (v : gV) : (Int32 ⊕ String) × gV := f_X11_pay_24  ((f_X11_changed s0 v).1) (f_X11_changed s0 v).2
def p_X11_pay_21  (s0 : Int32) (v : gV) : Prop := (p_X11_changed s0 v) ∧ (p_X11_pay_24   ((f_X11_changed s0 v).1) (f_X11_changed s0 v).2)
set_option maxHeartbeats 4000000 in
set_option maxRecDepth 100000 in
theorem w_X11_pay_21 {E : gE} {d : Nat} {Q : gO → gS → Prop}   (hd : 9 ≤ d) (s0 : Int32) (v : gV) (hp : p_X11_pay_21   s0 v) (hQ : gqTIV Q (f_X11_pay_21  s0 v)) : gG E m_X11_pay d Q 0 0 (rS v) 21 [] [.int s0, .ref (gX E + 0)] := by
  obtain ⟨h5, hp⟩ := hp
  refine g_callV (rest := []) s_X11_59_X11 rfl (c_X11_changed (E := E) (d := d - 1)   (by omega) s0 v h5) (by decide : kd 0 = (0, 8)) (show 0 < 572 by decide) rfl rfl (Nat.le_of_ble_eq_true rfl) (by omega) (by decide) (by decide) dX11_pay_21 (adV ?_) axN
  exact w_X11_pay_24  hd    ((f_X11_changed s0 v).1) (f_X11_changed s0 v).2 hp hQ
def f_X11_pay_11  (x1 : Int32) (x2 : Int32) (v : gV) : (Int32 ⊕ String) × gV := Sum.elim (fun (sr3 : Int32) => f_X11_pay_21  sr3 (f_X1_payPart 1 x1 x2 v).2) (fun (e : String) => (Sum.inr e, (f_X1_payPart 1 x1 x2 v).2)) (f_X1_payPart 1 x1 x2 v).1
def p_X11_pay_11  (x1 : Int32) (x2 : Int32) (v : gV) : Prop := (p_X1_payPart 1 x1 x2 v) ∧ (∀ (sr3 : Int32), (f_X1_payPart 1 x1 x2 v).1 = Sum.inl sr3 → (p_X11_pay_21   sr3 (f_X1_payPart 1 x1 x2 v).2))
set_option maxHeartbeats 4000000 in
set_option maxRecDepth 100000 in
theorem w_X11_pay_11 {E : gE} {d : Nat} {Q : gO → gS → Prop}   (hd : 9 ≤ d) (x1 : Int32) (x2 : Int32) (v : gV) (hp : p_X11_pay_11   x1 x2 v) (hQ : gqTIV Q (f_X11_pay_11  x1 x2 v)) : gG E m_X11_pay d Q 3 18 (rS v) 11 [(0, .ref (gX E + 0)), (1, .int x1), (2, .int x2)] [] := by
  refine g_aload_n 0 dX11_pay_11 rfl ?_
  refine g_aload_n 0 dX11_pay_12 rfl ?_
  refine r_get (.ref (gX E + 1)) f_X11_10_X11 rfl (by decide : kd 0 = (0, 8)) (show 0 < 572 by decide) dX11_pay_13 (fun _ => rfl) ?_
  refine g_iload_n 1 dX11_pay_16 rfl ?_
  refine g_iload_n 2 dX11_pay_17 rfl ?_
  obtain ⟨h2, hp⟩ := hp
  refine g_callV (rest := [.ref (gX E + 0)]) s_X11_77_X1 rfl (c_X1_payPart (E := E) (d := d - 1) 1 isBk_1 (by omega) x1 x2 v h2) (kbz isBk_1) (lt_b0 isBk_1) rfl rfl (Nat.le_of_ble_eq_true rfl) (by omega) (by decide) (by decide) dX11_pay_18 (adTI (fun sr3 h4 => ?_)) (axTI (fun e h4 => g_outs rfl rfl (qe (P := gqTIV Q) h4 hQ)))
  have hQ := ql (P := gqTIV Q) h4 hQ
  have hp := hp sr3 h4
  refine g_lv (lv' := []) [] rfl ?_
  exact w_X11_pay_21  hd    sr3 (f_X1_payPart 1 x1 x2 v).2 hp hQ
def f_X11_pay_0  (x1 : Int32) (x2 : Int32) (v : gV) : (Int32 ⊕ String) × gV := f_X11_pay_11  x1 x2 (f_X3_prepare 1 v)
def p_X11_pay_0  (x1 : Int32) (x2 : Int32) (v : gV) : Prop := (p_X3_prepare 1 v) ∧ (p_X11_pay_11   x1 x2 (f_X3_prepare 1 v))
set_option maxHeartbeats 4000000 in
set_option maxRecDepth 100000 in
theorem w_X11_pay_0 {E : gE} {d : Nat} {Q : gO → gS → Prop}   (hd : 9 ≤ d) (x1 : Int32) (x2 : Int32) (v : gV) (hp : p_X11_pay_0   x1 x2 v) (hQ : gqTIV Q (f_X11_pay_0  x1 x2 v)) : gG E m_X11_pay d Q 3 18 (rS v) 0 [(0, .ref (gX E + 0)), (1, .int x1), (2, .int x2)] [] := by
  refine g_aload_n 0 dX11_pay_0 rfl ?_
  refine r_get (.ref (gX E + 101)) f_X11_22_X11 rfl (by decide : kd 0 = (0, 8)) (show 0 < 572 by decide) dX11_pay_1 (fun _ => rfl) ?_
  refine g_aload_n 0 dX11_pay_4 rfl ?_
  refine r_get (.ref (gX E + 1)) f_X11_10_X11 rfl (by decide : kd 0 = (0, 8)) (show 0 < 572 by decide) dX11_pay_5 (fun _ => rfl) ?_
  obtain ⟨h1, hp⟩ := hp
  refine g_callV (rest := []) s_X11_51_X3 rfl (c_X3_prepare (E := E) (d := d - 1) 1 isBk_1 (by omega)  v h1) (by decide : kd 101 = (0, 2)) (show 101 < 572 by decide) rfl rfl (Nat.le_of_ble_eq_true rfl) (by omega) (by decide) (by decide) dX11_pay_8 (adN ?_) axN
  exact w_X11_pay_11  hd    x1 x2 (f_X3_prepare 1 v) hp hQ
def f_X11_pay  (x1 : Int32) (x2 : Int32) (v : gV) : (Int32 ⊕ String) × gV := f_X11_pay_0 x1 x2 v
def p_X11_pay  (x1 : Int32) (x2 : Int32) (v : gV) : Prop := p_X11_pay_0 x1 x2 v
theorem c_X11_pay {E : gE} {d : Nat}   (hd : 9 ≤ d) (x1 : Int32) (x2 : Int32) (v : gV) (hp : p_X11_pay x1 x2 v) : CT E m_X11_pay d 3 18 [.ref (gX E + 0), .int x1, .int x2] (rS v) (Cq (gOi (f_X11_pay x1 x2 v).1) (f_X11_pay x1 x2 v).2) := CT.of ok_X11_pay rfl (Nat.le_of_ble_eq_true rfl) (w_X11_pay_0  hd x1 x2 v hp ⟨rfl, rfl⟩)
def f_X11_closeClaim_23  (s0 : Int32) (v : gV) : (Int32 ⊕ String) × gV := (Sum.inl s0, v)
def p_X11_closeClaim_23  (s0 : Int32) (v : gV) : Prop := True
set_option maxHeartbeats 4000000 in
set_option maxRecDepth 100000 in
theorem w_X11_closeClaim_23 {E : gE} {d : Nat} {Q : gO → gS → Prop}   (hd : 9 ≤ d) (s0 : Int32) (v : gV) (hp : p_X11_closeClaim_23   s0 v) (hQ : gqTIV Q (f_X11_closeClaim_23  s0 v)) : gG E m_X11_closeClaim d Q 0 0 (rS v) 23 [] [.int s0] := by
  exact g_iret rfl dX11_closeClaim_23 hQ
def f_X11_closeClaim_20  (s0 : Int32) (v : gV) : (Int32 ⊕ String) × gV := f_X11_closeClaim_23  ((f_X11_changed s0 v).1) (f_X11_changed s0 v).2
def p_X11_closeClaim_20  (s0 : Int32) (v : gV) : Prop := (p_X11_changed s0 v) ∧ (p_X11_closeClaim_23   ((f_X11_changed s0 v).1) (f_X11_changed s0 v).2)
set_option maxHeartbeats 4000000 in
set_option maxRecDepth 100000 in
theorem w_X11_closeClaim_20 {E : gE} {d : Nat} {Q : gO → gS → Prop}   (hd : 9 ≤ d) (s0 : Int32) (v : gV) (hp : p_X11_closeClaim_20   s0 v) (hQ : gqTIV Q (f_X11_closeClaim_20  s0 v)) : gG E m_X11_closeClaim d Q 0 0 (rS v) 20 [] [.int s0, .ref (gX E + 0)] := by
  obtain ⟨h5, hp⟩ := hp
  refine g_callV (rest := []) s_X11_59_X11 rfl (c_X11_changed (E := E) (d := d - 1)   (by omega) s0 v h5) (by decide : kd 0 = (0, 8)) (show 0 < 572 by decide) rfl rfl (Nat.le_of_ble_eq_true rfl) (by omega) (by decide) (by decide) dX11_closeClaim_20 (adV ?_) axN
  exact w_X11_closeClaim_23  hd    ((f_X11_changed s0 v).1) (f_X11_changed s0 v).2 hp hQ
def f_X11_closeClaim_11  (x1 : Int32) (v : gV) : (Int32 ⊕ String) × gV := Sum.elim (fun (sr3 : Int32) => f_X11_closeClaim_20  sr3 (f_X1_removePaidClaim 1 x1 v).2) (fun (e : String) => (Sum.inr e, (f_X1_removePaidClaim 1 x1 v).2)) (f_X1_removePaidClaim 1 x1 v).1
def p_X11_closeClaim_11  (x1 : Int32) (v : gV) : Prop := (p_X1_removePaidClaim 1 x1 v) ∧ (∀ (sr3 : Int32), (f_X1_removePaidClaim 1 x1 v).1 = Sum.inl sr3 → (p_X11_closeClaim_20   sr3 (f_X1_removePaidClaim 1 x1 v).2))
set_option maxHeartbeats 4000000 in
set_option maxRecDepth 100000 in
theorem w_X11_closeClaim_11 {E : gE} {d : Nat} {Q : gO → gS → Prop}   (hd : 9 ≤ d) (x1 : Int32) (v : gV) (hp : p_X11_closeClaim_11   x1 v) (hQ : gqTIV Q (f_X11_closeClaim_11  x1 v)) : gG E m_X11_closeClaim d Q 2 12 (rS v) 11 [(0, .ref (gX E + 0)), (1, .int x1)] [] := by
  refine g_aload_n 0 dX11_closeClaim_11 rfl ?_
  refine g_aload_n 0 dX11_closeClaim_12 rfl ?_
  refine r_get (.ref (gX E + 1)) f_X11_10_X11 rfl (by decide : kd 0 = (0, 8)) (show 0 < 572 by decide) dX11_closeClaim_13 (fun _ => rfl) ?_
  refine g_iload_n 1 dX11_closeClaim_16 rfl ?_
  obtain ⟨h2, hp⟩ := hp
  refine g_callV (rest := [.ref (gX E + 0)]) s_X11_81_X1 rfl (c_X1_removePaidClaim (E := E) (d := d - 1) 1 isBk_1 (by omega) x1 v h2) (kbz isBk_1) (lt_b0 isBk_1) rfl rfl (Nat.le_of_ble_eq_true rfl) (by omega) (by decide) (by decide) dX11_closeClaim_17 (adTI (fun sr3 h4 => ?_)) (axTI (fun e h4 => g_outs rfl rfl (qe (P := gqTIV Q) h4 hQ)))
  have hQ := ql (P := gqTIV Q) h4 hQ
  have hp := hp sr3 h4
  refine g_lv (lv' := []) [] rfl ?_
  exact w_X11_closeClaim_20  hd    sr3 (f_X1_removePaidClaim 1 x1 v).2 hp hQ
def f_X11_closeClaim_0  (x1 : Int32) (v : gV) : (Int32 ⊕ String) × gV := f_X11_closeClaim_11  x1 (f_X3_prepare 1 v)
def p_X11_closeClaim_0  (x1 : Int32) (v : gV) : Prop := (p_X3_prepare 1 v) ∧ (p_X11_closeClaim_11   x1 (f_X3_prepare 1 v))
set_option maxHeartbeats 4000000 in
set_option maxRecDepth 100000 in
theorem w_X11_closeClaim_0 {E : gE} {d : Nat} {Q : gO → gS → Prop}   (hd : 9 ≤ d) (x1 : Int32) (v : gV) (hp : p_X11_closeClaim_0   x1 v) (hQ : gqTIV Q (f_X11_closeClaim_0  x1 v)) : gG E m_X11_closeClaim d Q 2 12 (rS v) 0 [(0, .ref (gX E + 0)), (1, .int x1)] [] := by
  refine g_aload_n 0 dX11_closeClaim_0 rfl ?_
  refine r_get (.ref (gX E + 101)) f_X11_22_X11 rfl (by decide : kd 0 = (0, 8)) (show 0 < 572 by decide) dX11_closeClaim_1 (fun _ => rfl) ?_
  refine g_aload_n 0 dX11_closeClaim_4 rfl ?_
  refine r_get (.ref (gX E + 1)) f_X11_10_X11 rfl (by decide : kd 0 = (0, 8)) (show 0 < 572 by decide) dX11_closeClaim_5 (fun _ => rfl) ?_
  obtain ⟨h1, hp⟩ := hp
  refine g_callV (rest := []) s_X11_51_X3 rfl (c_X3_prepare (E := E) (d := d - 1) 1 isBk_1 (by omega)  v h1) (by decide : kd 101 = (0, 2)) (show 101 < 572 by decide) rfl rfl (Nat.le_of_ble_eq_true rfl) (by omega) (by decide) (by decide) dX11_closeClaim_8 (adN ?_) axN
  exact w_X11_closeClaim_11  hd    x1 (f_X3_prepare 1 v) hp hQ
def f_X11_closeClaim  (x1 : Int32) (v : gV) : (Int32 ⊕ String) × gV := f_X11_closeClaim_0 x1 v
def p_X11_closeClaim  (x1 : Int32) (v : gV) : Prop := p_X11_closeClaim_0 x1 v
theorem c_X11_closeClaim {E : gE} {d : Nat}   (hd : 9 ≤ d) (x1 : Int32) (v : gV) (hp : p_X11_closeClaim x1 v) : CT E m_X11_closeClaim d 2 12 [.ref (gX E + 0), .int x1] (rS v) (Cq (gOi (f_X11_closeClaim x1 v).1) (f_X11_closeClaim x1 v).2) := CT.of ok_X11_closeClaim rfl (Nat.le_of_ble_eq_true rfl) (w_X11_closeClaim_0  hd x1 v hp ⟨rfl, rfl⟩)
def f_X11_withdrawClaim_23  (s0 : Int32) (v : gV) : (Int32 ⊕ String) × gV := (Sum.inl s0, v)
def p_X11_withdrawClaim_23  (s0 : Int32) (v : gV) : Prop := True
set_option maxHeartbeats 4000000 in
set_option maxRecDepth 100000 in
theorem w_X11_withdrawClaim_23 {E : gE} {d : Nat} {Q : gO → gS → Prop}   (hd : 9 ≤ d) (s0 : Int32) (v : gV) (hp : p_X11_withdrawClaim_23   s0 v) (hQ : gqTIV Q (f_X11_withdrawClaim_23  s0 v)) : gG E m_X11_withdrawClaim d Q 0 0 (rS v) 23 [] [.int s0] := by
  exact g_iret rfl dX11_withdrawClaim_23 hQ
def f_X11_withdrawClaim_20  (s0 : Int32) (v : gV) : (Int32 ⊕ String) × gV := f_X11_withdrawClaim_23  ((f_X11_changed s0 v).1) (f_X11_changed s0 v).2
def p_X11_withdrawClaim_20  (s0 : Int32) (v : gV) : Prop := (p_X11_changed s0 v) ∧ (p_X11_withdrawClaim_23   ((f_X11_changed s0 v).1) (f_X11_changed s0 v).2)
set_option maxHeartbeats 4000000 in
set_option maxRecDepth 100000 in
theorem w_X11_withdrawClaim_20 {E : gE} {d : Nat} {Q : gO → gS → Prop}   (hd : 9 ≤ d) (s0 : Int32) (v : gV) (hp : p_X11_withdrawClaim_20   s0 v) (hQ : gqTIV Q (f_X11_withdrawClaim_20  s0 v)) : gG E m_X11_withdrawClaim d Q 0 0 (rS v) 20 [] [.int s0, .ref (gX E + 0)] := by
  obtain ⟨h5, hp⟩ := hp
  refine g_callV (rest := []) s_X11_59_X11 rfl (c_X11_changed (E := E) (d := d - 1)   (by omega) s0 v h5) (by decide : kd 0 = (0, 8)) (show 0 < 572 by decide) rfl rfl (Nat.le_of_ble_eq_true rfl) (by omega) (by decide) (by decide) dX11_withdrawClaim_20 (adV ?_) axN
  exact w_X11_withdrawClaim_23  hd    ((f_X11_changed s0 v).1) (f_X11_changed s0 v).2 hp hQ
def f_X11_withdrawClaim_11  (x1 : Int32) (v : gV) : (Int32 ⊕ String) × gV := Sum.elim (fun (sr3 : Int32) => f_X11_withdrawClaim_20  sr3 (f_X1_removeUnpaidClaim 1 x1 v).2) (fun (e : String) => (Sum.inr e, (f_X1_removeUnpaidClaim 1 x1 v).2)) (f_X1_removeUnpaidClaim 1 x1 v).1
def p_X11_withdrawClaim_11  (x1 : Int32) (v : gV) : Prop := (p_X1_removeUnpaidClaim 1 x1 v) ∧ (∀ (sr3 : Int32), (f_X1_removeUnpaidClaim 1 x1 v).1 = Sum.inl sr3 → (p_X11_withdrawClaim_20   sr3 (f_X1_removeUnpaidClaim 1 x1 v).2))
set_option maxHeartbeats 4000000 in
set_option maxRecDepth 100000 in
theorem w_X11_withdrawClaim_11 {E : gE} {d : Nat} {Q : gO → gS → Prop}   (hd : 9 ≤ d) (x1 : Int32) (v : gV) (hp : p_X11_withdrawClaim_11   x1 v) (hQ : gqTIV Q (f_X11_withdrawClaim_11  x1 v)) : gG E m_X11_withdrawClaim d Q 2 12 (rS v) 11 [(0, .ref (gX E + 0)), (1, .int x1)] [] := by
  refine g_aload_n 0 dX11_withdrawClaim_11 rfl ?_
  refine g_aload_n 0 dX11_withdrawClaim_12 rfl ?_
  refine r_get (.ref (gX E + 1)) f_X11_10_X11 rfl (by decide : kd 0 = (0, 8)) (show 0 < 572 by decide) dX11_withdrawClaim_13 (fun _ => rfl) ?_
  refine g_iload_n 1 dX11_withdrawClaim_16 rfl ?_
  obtain ⟨h2, hp⟩ := hp
  refine g_callV (rest := [.ref (gX E + 0)]) s_X11_84_X1 rfl (c_X1_removeUnpaidClaim (E := E) (d := d - 1) 1 isBk_1 (by omega) x1 v h2) (kbz isBk_1) (lt_b0 isBk_1) rfl rfl (Nat.le_of_ble_eq_true rfl) (by omega) (by decide) (by decide) dX11_withdrawClaim_17 (adTI (fun sr3 h4 => ?_)) (axTI (fun e h4 => g_outs rfl rfl (qe (P := gqTIV Q) h4 hQ)))
  have hQ := ql (P := gqTIV Q) h4 hQ
  have hp := hp sr3 h4
  refine g_lv (lv' := []) [] rfl ?_
  exact w_X11_withdrawClaim_20  hd    sr3 (f_X1_removeUnpaidClaim 1 x1 v).2 hp hQ
def f_X11_withdrawClaim_0  (x1 : Int32) (v : gV) : (Int32 ⊕ String) × gV := f_X11_withdrawClaim_11  x1 (f_X3_prepare 1 v)
def p_X11_withdrawClaim_0  (x1 : Int32) (v : gV) : Prop := (p_X3_prepare 1 v) ∧ (p_X11_withdrawClaim_11   x1 (f_X3_prepare 1 v))
set_option maxHeartbeats 4000000 in
set_option maxRecDepth 100000 in
theorem w_X11_withdrawClaim_0 {E : gE} {d : Nat} {Q : gO → gS → Prop}   (hd : 9 ≤ d) (x1 : Int32) (v : gV) (hp : p_X11_withdrawClaim_0   x1 v) (hQ : gqTIV Q (f_X11_withdrawClaim_0  x1 v)) : gG E m_X11_withdrawClaim d Q 2 12 (rS v) 0 [(0, .ref (gX E + 0)), (1, .int x1)] [] := by
  refine g_aload_n 0 dX11_withdrawClaim_0 rfl ?_
  refine r_get (.ref (gX E + 101)) f_X11_22_X11 rfl (by decide : kd 0 = (0, 8)) (show 0 < 572 by decide) dX11_withdrawClaim_1 (fun _ => rfl) ?_
  refine g_aload_n 0 dX11_withdrawClaim_4 rfl ?_
  refine r_get (.ref (gX E + 1)) f_X11_10_X11 rfl (by decide : kd 0 = (0, 8)) (show 0 < 572 by decide) dX11_withdrawClaim_5 (fun _ => rfl) ?_
  obtain ⟨h1, hp⟩ := hp
  refine g_callV (rest := []) s_X11_51_X3 rfl (c_X3_prepare (E := E) (d := d - 1) 1 isBk_1 (by omega)  v h1) (by decide : kd 101 = (0, 2)) (show 101 < 572 by decide) rfl rfl (Nat.le_of_ble_eq_true rfl) (by omega) (by decide) (by decide) dX11_withdrawClaim_8 (adN ?_) axN
  exact w_X11_withdrawClaim_11  hd    x1 (f_X3_prepare 1 v) hp hQ
def f_X11_withdrawClaim  (x1 : Int32) (v : gV) : (Int32 ⊕ String) × gV := f_X11_withdrawClaim_0 x1 v
def p_X11_withdrawClaim  (x1 : Int32) (v : gV) : Prop := p_X11_withdrawClaim_0 x1 v
theorem c_X11_withdrawClaim {E : gE} {d : Nat}   (hd : 9 ≤ d) (x1 : Int32) (v : gV) (hp : p_X11_withdrawClaim x1 v) : CT E m_X11_withdrawClaim d 2 12 [.ref (gX E + 0), .int x1] (rS v) (Cq (gOi (f_X11_withdrawClaim x1 v).1) (f_X11_withdrawClaim x1 v).2) := CT.of ok_X11_withdrawClaim rfl (Nat.le_of_ble_eq_true rfl) (w_X11_withdrawClaim_0  hd x1 v hp ⟨rfl, rfl⟩)
def f_X11_addOffer_28  (s0 : Int32) (v : gV) : (Int32 ⊕ String) × gV := (Sum.inl s0, v)
def p_X11_addOffer_28  (s0 : Int32) (v : gV) : Prop := True
set_option maxHeartbeats 4000000 in
set_option maxRecDepth 100000 in
theorem w_X11_addOffer_28 {E : gE} {d : Nat} {Q : gO → gS → Prop}   (hd : 9 ≤ d) (s0 : Int32) (v : gV) (hp : p_X11_addOffer_28   s0 v) (hQ : gqTIV Q (f_X11_addOffer_28  s0 v)) : gG E m_X11_addOffer d Q 0 0 (rS v) 28 [] [.int s0] := by
  exact g_iret rfl dX11_addOffer_28 hQ
def f_X11_addOffer_25  (s0 : Int32) (v : gV) : (Int32 ⊕ String) × gV := f_X11_addOffer_28  ((f_X11_changed s0 v).1) (f_X11_changed s0 v).2
def p_X11_addOffer_25  (s0 : Int32) (v : gV) : Prop := (p_X11_changed s0 v) ∧ (p_X11_addOffer_28   ((f_X11_changed s0 v).1) (f_X11_changed s0 v).2)
set_option maxHeartbeats 4000000 in
set_option maxRecDepth 100000 in
theorem w_X11_addOffer_25 {E : gE} {d : Nat} {Q : gO → gS → Prop}   (hd : 9 ≤ d) (s0 : Int32) (v : gV) (hp : p_X11_addOffer_25   s0 v) (hQ : gqTIV Q (f_X11_addOffer_25  s0 v)) : gG E m_X11_addOffer d Q 0 0 (rS v) 25 [] [.int s0, .ref (gX E + 0)] := by
  obtain ⟨h5, hp⟩ := hp
  refine g_callV (rest := []) s_X11_59_X11 rfl (c_X11_changed (E := E) (d := d - 1)   (by omega) s0 v h5) (by decide : kd 0 = (0, 8)) (show 0 < 572 by decide) rfl rfl (Nat.le_of_ble_eq_true rfl) (by omega) (by decide) (by decide) dX11_addOffer_25 (adV ?_) axN
  exact w_X11_addOffer_28  hd    ((f_X11_changed s0 v).1) (f_X11_changed s0 v).2 hp hQ
def f_X11_addOffer_11  (x1 : Int32) (x2 : Int32) (x3 : Int32) (v : gV) : (Int32 ⊕ String) × gV := Sum.elim (fun (sr3 : Int32) => f_X11_addOffer_25  sr3 (f_X4_add 1 x1 x2 x3 v).2) (fun (e : String) => (Sum.inr e, (f_X4_add 1 x1 x2 x3 v).2)) (f_X4_add 1 x1 x2 x3 v).1
def p_X11_addOffer_11  (x1 : Int32) (x2 : Int32) (x3 : Int32) (v : gV) : Prop := (p_X4_add 1 x1 x2 x3 v) ∧ (∀ (sr3 : Int32), (f_X4_add 1 x1 x2 x3 v).1 = Sum.inl sr3 → (p_X11_addOffer_25   sr3 (f_X4_add 1 x1 x2 x3 v).2))
set_option maxHeartbeats 4000000 in
set_option maxRecDepth 100000 in
theorem w_X11_addOffer_11 {E : gE} {d : Nat} {Q : gO → gS → Prop}   (hd : 9 ≤ d) (x1 : Int32) (x2 : Int32) (x3 : Int32) (v : gV) (hp : p_X11_addOffer_11   x1 x2 x3 v) (hQ : gqTIV Q (f_X11_addOffer_11  x1 x2 x3 v)) : gG E m_X11_addOffer d Q 4 24 (rS v) 11 [(0, .ref (gX E + 0)), (1, .int x1), (2, .int x2), (3, .int x3)] [] := by
  refine g_aload_n 0 dX11_addOffer_11 rfl ?_
  refine g_aload_n 0 dX11_addOffer_12 rfl ?_
  refine r_get (.ref (gX E + 1)) f_X11_10_X11 rfl (by decide : kd 0 = (0, 8)) (show 0 < 572 by decide) dX11_addOffer_13 (fun _ => rfl) ?_
  refine r_get (.ref (gX E + (1 + 45))) f_X11_87_X1 rfl (kbz isBk_1) (lt_b0 isBk_1) dX11_addOffer_16 (fun _ => rfl) ?_
  refine g_iload_n 1 dX11_addOffer_19 rfl ?_
  refine g_iload_n 2 dX11_addOffer_20 rfl ?_
  refine g_iload_n 3 dX11_addOffer_21 rfl ?_
  obtain ⟨h2, hp⟩ := hp
  refine g_callV (rest := [.ref (gX E + 0)]) s_X11_91_X4 rfl (c_X4_add (E := E) (d := d - 1) 1 isBk_1 (by omega) x1 x2 x3 v h2) (kb_45 isBk_1) (lt_b isBk_1 (by decide)) rfl rfl (Nat.le_of_ble_eq_true rfl) (by omega) (by decide) (by decide) dX11_addOffer_22 (adTI (fun sr3 h4 => ?_)) (axTI (fun e h4 => g_outs rfl rfl (qe (P := gqTIV Q) h4 hQ)))
  have hQ := ql (P := gqTIV Q) h4 hQ
  have hp := hp sr3 h4
  refine g_lv (lv' := []) [] rfl ?_
  exact w_X11_addOffer_25  hd    sr3 (f_X4_add 1 x1 x2 x3 v).2 hp hQ
def f_X11_addOffer_0  (x1 : Int32) (x2 : Int32) (x3 : Int32) (v : gV) : (Int32 ⊕ String) × gV := f_X11_addOffer_11  x1 x2 x3 (f_X3_prepare 1 v)
def p_X11_addOffer_0  (x1 : Int32) (x2 : Int32) (x3 : Int32) (v : gV) : Prop := (p_X3_prepare 1 v) ∧ (p_X11_addOffer_11   x1 x2 x3 (f_X3_prepare 1 v))
set_option maxHeartbeats 4000000 in
set_option maxRecDepth 100000 in
theorem w_X11_addOffer_0 {E : gE} {d : Nat} {Q : gO → gS → Prop}   (hd : 9 ≤ d) (x1 : Int32) (x2 : Int32) (x3 : Int32) (v : gV) (hp : p_X11_addOffer_0   x1 x2 x3 v) (hQ : gqTIV Q (f_X11_addOffer_0  x1 x2 x3 v)) : gG E m_X11_addOffer d Q 4 24 (rS v) 0 [(0, .ref (gX E + 0)), (1, .int x1), (2, .int x2), (3, .int x3)] [] := by
  refine g_aload_n 0 dX11_addOffer_0 rfl ?_
  refine r_get (.ref (gX E + 101)) f_X11_22_X11 rfl (by decide : kd 0 = (0, 8)) (show 0 < 572 by decide) dX11_addOffer_1 (fun _ => rfl) ?_
  refine g_aload_n 0 dX11_addOffer_4 rfl ?_
  refine r_get (.ref (gX E + 1)) f_X11_10_X11 rfl (by decide : kd 0 = (0, 8)) (show 0 < 572 by decide) dX11_addOffer_5 (fun _ => rfl) ?_
  obtain ⟨h1, hp⟩ := hp
  refine g_callV (rest := []) s_X11_51_X3 rfl (c_X3_prepare (E := E) (d := d - 1) 1 isBk_1 (by omega)  v h1) (by decide : kd 101 = (0, 2)) (show 101 < 572 by decide) rfl rfl (Nat.le_of_ble_eq_true rfl) (by omega) (by decide) (by decide) dX11_addOffer_8 (adN ?_) axN
  exact w_X11_addOffer_11  hd    x1 x2 x3 (f_X3_prepare 1 v) hp hQ
def f_X11_addOffer  (x1 : Int32) (x2 : Int32) (x3 : Int32) (v : gV) : (Int32 ⊕ String) × gV := f_X11_addOffer_0 x1 x2 x3 v
def p_X11_addOffer  (x1 : Int32) (x2 : Int32) (x3 : Int32) (v : gV) : Prop := p_X11_addOffer_0 x1 x2 x3 v
theorem c_X11_addOffer {E : gE} {d : Nat}   (hd : 9 ≤ d) (x1 : Int32) (x2 : Int32) (x3 : Int32) (v : gV) (hp : p_X11_addOffer x1 x2 x3 v) : CT E m_X11_addOffer d 4 24 [.ref (gX E + 0), .int x1, .int x2, .int x3] (rS v) (Cq (gOi (f_X11_addOffer x1 x2 x3 v).1) (f_X11_addOffer x1 x2 x3 v).2) := CT.of ok_X11_addOffer rfl (Nat.le_of_ble_eq_true rfl) (w_X11_addOffer_0  hd x1 x2 x3 v hp ⟨rfl, rfl⟩)
def f_X11_dropOffer_26  (s0 : Int32) (v : gV) : (Int32 ⊕ String) × gV := (Sum.inl s0, v)
def p_X11_dropOffer_26  (s0 : Int32) (v : gV) : Prop := True
set_option maxHeartbeats 4000000 in
set_option maxRecDepth 100000 in
theorem w_X11_dropOffer_26 {E : gE} {d : Nat} {Q : gO → gS → Prop}   (hd : 9 ≤ d) (s0 : Int32) (v : gV) (hp : p_X11_dropOffer_26   s0 v) (hQ : gqTIV Q (f_X11_dropOffer_26  s0 v)) : gG E m_X11_dropOffer d Q 0 0 (rS v) 26 [] [.int s0] := by
  exact g_iret rfl dX11_dropOffer_26 hQ
def f_X11_dropOffer_23  (s0 : Int32) (v : gV) : (Int32 ⊕ String) × gV := f_X11_dropOffer_26  ((f_X11_changed s0 v).1) (f_X11_changed s0 v).2
def p_X11_dropOffer_23  (s0 : Int32) (v : gV) : Prop := (p_X11_changed s0 v) ∧ (p_X11_dropOffer_26   ((f_X11_changed s0 v).1) (f_X11_changed s0 v).2)
set_option maxHeartbeats 4000000 in
set_option maxRecDepth 100000 in
theorem w_X11_dropOffer_23 {E : gE} {d : Nat} {Q : gO → gS → Prop}   (hd : 9 ≤ d) (s0 : Int32) (v : gV) (hp : p_X11_dropOffer_23   s0 v) (hQ : gqTIV Q (f_X11_dropOffer_23  s0 v)) : gG E m_X11_dropOffer d Q 0 0 (rS v) 23 [] [.int s0, .ref (gX E + 0)] := by
  obtain ⟨h5, hp⟩ := hp
  refine g_callV (rest := []) s_X11_59_X11 rfl (c_X11_changed (E := E) (d := d - 1)   (by omega) s0 v h5) (by decide : kd 0 = (0, 8)) (show 0 < 572 by decide) rfl rfl (Nat.le_of_ble_eq_true rfl) (by omega) (by decide) (by decide) dX11_dropOffer_23 (adV ?_) axN
  exact w_X11_dropOffer_26  hd    ((f_X11_changed s0 v).1) (f_X11_changed s0 v).2 hp hQ
def f_X11_dropOffer_11  (x1 : Int32) (v : gV) : (Int32 ⊕ String) × gV := Sum.elim (fun (sr3 : Int32) => f_X11_dropOffer_23  sr3 (f_X4_remove 1 x1 v).2) (fun (e : String) => (Sum.inr e, (f_X4_remove 1 x1 v).2)) (f_X4_remove 1 x1 v).1
def p_X11_dropOffer_11  (x1 : Int32) (v : gV) : Prop := (p_X4_remove 1 x1 v) ∧ (∀ (sr3 : Int32), (f_X4_remove 1 x1 v).1 = Sum.inl sr3 → (p_X11_dropOffer_23   sr3 (f_X4_remove 1 x1 v).2))
set_option maxHeartbeats 4000000 in
set_option maxRecDepth 100000 in
theorem w_X11_dropOffer_11 {E : gE} {d : Nat} {Q : gO → gS → Prop}   (hd : 9 ≤ d) (x1 : Int32) (v : gV) (hp : p_X11_dropOffer_11   x1 v) (hQ : gqTIV Q (f_X11_dropOffer_11  x1 v)) : gG E m_X11_dropOffer d Q 1 6 (rS v) 11 [(0, .ref (gX E + 0)), (1, .int x1)] [] := by
  refine g_aload_n 0 dX11_dropOffer_11 rfl ?_
  refine g_aload_n 0 dX11_dropOffer_12 rfl ?_
  refine r_get (.ref (gX E + 1)) f_X11_10_X11 rfl (by decide : kd 0 = (0, 8)) (show 0 < 572 by decide) dX11_dropOffer_13 (fun _ => rfl) ?_
  refine r_get (.ref (gX E + (1 + 45))) f_X11_87_X1 rfl (kbz isBk_1) (lt_b0 isBk_1) dX11_dropOffer_16 (fun _ => rfl) ?_
  refine g_iload_n 1 dX11_dropOffer_19 rfl ?_
  obtain ⟨h2, hp⟩ := hp
  refine g_callV (rest := [.ref (gX E + 0)]) s_X11_96_X4 rfl (c_X4_remove (E := E) (d := d - 1) 1 isBk_1 (by omega) x1 v h2) (kb_45 isBk_1) (lt_b isBk_1 (by decide)) rfl rfl (Nat.le_of_ble_eq_true rfl) (by omega) (by decide) (by decide) dX11_dropOffer_20 (adTI (fun sr3 h4 => ?_)) (axTI (fun e h4 => g_outs rfl rfl (qe (P := gqTIV Q) h4 hQ)))
  have hQ := ql (P := gqTIV Q) h4 hQ
  have hp := hp sr3 h4
  refine g_lv (lv' := []) [] rfl ?_
  exact w_X11_dropOffer_23  hd    sr3 (f_X4_remove 1 x1 v).2 hp hQ
def f_X11_dropOffer_0  (x1 : Int32) (v : gV) : (Int32 ⊕ String) × gV := f_X11_dropOffer_11  x1 (f_X3_prepare 1 v)
def p_X11_dropOffer_0  (x1 : Int32) (v : gV) : Prop := (p_X3_prepare 1 v) ∧ (p_X11_dropOffer_11   x1 (f_X3_prepare 1 v))
set_option maxHeartbeats 4000000 in
set_option maxRecDepth 100000 in
theorem w_X11_dropOffer_0 {E : gE} {d : Nat} {Q : gO → gS → Prop}   (hd : 9 ≤ d) (x1 : Int32) (v : gV) (hp : p_X11_dropOffer_0   x1 v) (hQ : gqTIV Q (f_X11_dropOffer_0  x1 v)) : gG E m_X11_dropOffer d Q 1 6 (rS v) 0 [(0, .ref (gX E + 0)), (1, .int x1)] [] := by
  refine g_aload_n 0 dX11_dropOffer_0 rfl ?_
  refine r_get (.ref (gX E + 101)) f_X11_22_X11 rfl (by decide : kd 0 = (0, 8)) (show 0 < 572 by decide) dX11_dropOffer_1 (fun _ => rfl) ?_
  refine g_aload_n 0 dX11_dropOffer_4 rfl ?_
  refine r_get (.ref (gX E + 1)) f_X11_10_X11 rfl (by decide : kd 0 = (0, 8)) (show 0 < 572 by decide) dX11_dropOffer_5 (fun _ => rfl) ?_
  obtain ⟨h1, hp⟩ := hp
  refine g_callV (rest := []) s_X11_51_X3 rfl (c_X3_prepare (E := E) (d := d - 1) 1 isBk_1 (by omega)  v h1) (by decide : kd 101 = (0, 2)) (show 101 < 572 by decide) rfl rfl (Nat.le_of_ble_eq_true rfl) (by omega) (by decide) (by decide) dX11_dropOffer_8 (adN ?_) axN
  exact w_X11_dropOffer_11  hd    x1 (f_X3_prepare 1 v) hp hQ
def f_X11_dropOffer  (x1 : Int32) (v : gV) : (Int32 ⊕ String) × gV := f_X11_dropOffer_0 x1 v
def p_X11_dropOffer  (x1 : Int32) (v : gV) : Prop := p_X11_dropOffer_0 x1 v
theorem c_X11_dropOffer {E : gE} {d : Nat}   (hd : 9 ≤ d) (x1 : Int32) (v : gV) (hp : p_X11_dropOffer x1 v) : CT E m_X11_dropOffer d 1 6 [.ref (gX E + 0), .int x1] (rS v) (Cq (gOi (f_X11_dropOffer x1 v).1) (f_X11_dropOffer x1 v).2) := CT.of ok_X11_dropOffer rfl (Nat.le_of_ble_eq_true rfl) (w_X11_dropOffer_0  hd x1 v hp ⟨rfl, rfl⟩)
def f_X11_passDays_23  (s0 : Int32) (v : gV) : (Int32 ⊕ String) × gV := (Sum.inl s0, v)
def p_X11_passDays_23  (s0 : Int32) (v : gV) : Prop := True
set_option maxHeartbeats 4000000 in
set_option maxRecDepth 100000 in
theorem w_X11_passDays_23 {E : gE} {d : Nat} {Q : gO → gS → Prop}   (hd : 9 ≤ d) (s0 : Int32) (v : gV) (hp : p_X11_passDays_23   s0 v) (hQ : gqTIV Q (f_X11_passDays_23  s0 v)) : gG E m_X11_passDays d Q 0 0 (rS v) 23 [] [.int s0] := by
  exact g_iret rfl dX11_passDays_23 hQ
def f_X11_passDays_20  (s0 : Int32) (v : gV) : (Int32 ⊕ String) × gV := f_X11_passDays_23  ((f_X11_changed s0 v).1) (f_X11_changed s0 v).2
def p_X11_passDays_20  (s0 : Int32) (v : gV) : Prop := (p_X11_changed s0 v) ∧ (p_X11_passDays_23   ((f_X11_changed s0 v).1) (f_X11_changed s0 v).2)
set_option maxHeartbeats 4000000 in
set_option maxRecDepth 100000 in
theorem w_X11_passDays_20 {E : gE} {d : Nat} {Q : gO → gS → Prop}   (hd : 9 ≤ d) (s0 : Int32) (v : gV) (hp : p_X11_passDays_20   s0 v) (hQ : gqTIV Q (f_X11_passDays_20  s0 v)) : gG E m_X11_passDays d Q 0 0 (rS v) 20 [] [.int s0, .ref (gX E + 0)] := by
  obtain ⟨h5, hp⟩ := hp
  refine g_callV (rest := []) s_X11_59_X11 rfl (c_X11_changed (E := E) (d := d - 1)   (by omega) s0 v h5) (by decide : kd 0 = (0, 8)) (show 0 < 572 by decide) rfl rfl (Nat.le_of_ble_eq_true rfl) (by omega) (by decide) (by decide) dX11_passDays_20 (adV ?_) axN
  exact w_X11_passDays_23  hd    ((f_X11_changed s0 v).1) (f_X11_changed s0 v).2 hp hQ
def f_X11_passDays_11  (x1 : Int32) (v : gV) : (Int32 ⊕ String) × gV := Sum.elim (fun (sr3 : Int32) => f_X11_passDays_20  sr3 (f_X1_advance 1 x1 v).2) (fun (e : String) => (Sum.inr e, (f_X1_advance 1 x1 v).2)) (f_X1_advance 1 x1 v).1
def p_X11_passDays_11  (x1 : Int32) (v : gV) : Prop := (p_X1_advance 1 x1 v) ∧ (∀ (sr3 : Int32), (f_X1_advance 1 x1 v).1 = Sum.inl sr3 → (p_X11_passDays_20   sr3 (f_X1_advance 1 x1 v).2))
set_option maxHeartbeats 4000000 in
set_option maxRecDepth 100000 in
theorem w_X11_passDays_11 {E : gE} {d : Nat} {Q : gO → gS → Prop}   (hd : 9 ≤ d) (x1 : Int32) (v : gV) (hp : p_X11_passDays_11   x1 v) (hQ : gqTIV Q (f_X11_passDays_11  x1 v)) : gG E m_X11_passDays d Q 1 6 (rS v) 11 [(0, .ref (gX E + 0)), (1, .int x1)] [] := by
  refine g_aload_n 0 dX11_passDays_11 rfl ?_
  refine g_aload_n 0 dX11_passDays_12 rfl ?_
  refine r_get (.ref (gX E + 1)) f_X11_10_X11 rfl (by decide : kd 0 = (0, 8)) (show 0 < 572 by decide) dX11_passDays_13 (fun _ => rfl) ?_
  refine g_iload_n 1 dX11_passDays_16 rfl ?_
  obtain ⟨h2, hp⟩ := hp
  refine g_callV (rest := [.ref (gX E + 0)]) s_X11_99_X1 rfl (c_X1_advance (E := E) (d := d - 1) 1 isBk_1 (by omega) x1 v h2) (kbz isBk_1) (lt_b0 isBk_1) rfl rfl (Nat.le_of_ble_eq_true rfl) (by omega) (by decide) (by decide) dX11_passDays_17 (adTI (fun sr3 h4 => ?_)) (axTI (fun e h4 => g_outs rfl rfl (qe (P := gqTIV Q) h4 hQ)))
  have hQ := ql (P := gqTIV Q) h4 hQ
  have hp := hp sr3 h4
  refine g_lv (lv' := []) [] rfl ?_
  exact w_X11_passDays_20  hd    sr3 (f_X1_advance 1 x1 v).2 hp hQ
def f_X11_passDays_0  (x1 : Int32) (v : gV) : (Int32 ⊕ String) × gV := f_X11_passDays_11  x1 (f_X3_prepare 1 v)
def p_X11_passDays_0  (x1 : Int32) (v : gV) : Prop := (p_X3_prepare 1 v) ∧ (p_X11_passDays_11   x1 (f_X3_prepare 1 v))
set_option maxHeartbeats 4000000 in
set_option maxRecDepth 100000 in
theorem w_X11_passDays_0 {E : gE} {d : Nat} {Q : gO → gS → Prop}   (hd : 9 ≤ d) (x1 : Int32) (v : gV) (hp : p_X11_passDays_0   x1 v) (hQ : gqTIV Q (f_X11_passDays_0  x1 v)) : gG E m_X11_passDays d Q 1 6 (rS v) 0 [(0, .ref (gX E + 0)), (1, .int x1)] [] := by
  refine g_aload_n 0 dX11_passDays_0 rfl ?_
  refine r_get (.ref (gX E + 101)) f_X11_22_X11 rfl (by decide : kd 0 = (0, 8)) (show 0 < 572 by decide) dX11_passDays_1 (fun _ => rfl) ?_
  refine g_aload_n 0 dX11_passDays_4 rfl ?_
  refine r_get (.ref (gX E + 1)) f_X11_10_X11 rfl (by decide : kd 0 = (0, 8)) (show 0 < 572 by decide) dX11_passDays_5 (fun _ => rfl) ?_
  obtain ⟨h1, hp⟩ := hp
  refine g_callV (rest := []) s_X11_51_X3 rfl (c_X3_prepare (E := E) (d := d - 1) 1 isBk_1 (by omega)  v h1) (by decide : kd 101 = (0, 2)) (show 101 < 572 by decide) rfl rfl (Nat.le_of_ble_eq_true rfl) (by omega) (by decide) (by decide) dX11_passDays_8 (adN ?_) axN
  exact w_X11_passDays_11  hd    x1 (f_X3_prepare 1 v) hp hQ
def f_X11_passDays  (x1 : Int32) (v : gV) : (Int32 ⊕ String) × gV := f_X11_passDays_0 x1 v
def p_X11_passDays  (x1 : Int32) (v : gV) : Prop := p_X11_passDays_0 x1 v
theorem c_X11_passDays {E : gE} {d : Nat}   (hd : 9 ≤ d) (x1 : Int32) (v : gV) (hp : p_X11_passDays x1 v) : CT E m_X11_passDays d 1 6 [.ref (gX E + 0), .int x1] (rS v) (Cq (gOi (f_X11_passDays x1 v).1) (f_X11_passDays x1 v).2) := CT.of ok_X11_passDays rfl (Nat.le_of_ble_eq_true rfl) (w_X11_passDays_0  hd x1 v hp ⟨rfl, rfl⟩)
def f_X11_undo_11  (s0 : Int32) (v : gV) : (Int32 ⊕ String) × gV := (Sum.inl s0, v)
def p_X11_undo_11  (s0 : Int32) (v : gV) : Prop := True
set_option maxHeartbeats 4000000 in
set_option maxRecDepth 100000 in
theorem w_X11_undo_11 {E : gE} {d : Nat} {Q : gO → gS → Prop}   (hd : 8 ≤ d) (s0 : Int32) (v : gV) (hp : p_X11_undo_11   s0 v) (hQ : gqTIV Q (f_X11_undo_11  s0 v)) : gG E m_X11_undo d Q 0 0 (rS v) 11 [] [.int s0] := by
  exact g_iret rfl dX11_undo_11 hQ
def f_X11_undo_0   (v : gV) : (Int32 ⊕ String) × gV := Sum.elim (fun (sr2 : Int32) => f_X11_undo_11  sr2 (f_X3_stepBack 1 v).2) (fun (e : String) => (Sum.inr e, (f_X3_stepBack 1 v).2)) (f_X3_stepBack 1 v).1
def p_X11_undo_0   (v : gV) : Prop := (p_X3_stepBack 1 v) ∧ (∀ (sr2 : Int32), (f_X3_stepBack 1 v).1 = Sum.inl sr2 → (p_X11_undo_11   sr2 (f_X3_stepBack 1 v).2))
set_option maxHeartbeats 4000000 in
set_option maxRecDepth 100000 in
theorem w_X11_undo_0 {E : gE} {d : Nat} {Q : gO → gS → Prop}   (hd : 8 ≤ d)  (v : gV) (hp : p_X11_undo_0    v) (hQ : gqTIV Q (f_X11_undo_0   v)) : gG E m_X11_undo d Q 1 6 (rS v) 0 [(0, .ref (gX E + 0))] [] := by
  refine g_aload_n 0 dX11_undo_0 rfl ?_
  refine r_get (.ref (gX E + 101)) f_X11_22_X11 rfl (by decide : kd 0 = (0, 8)) (show 0 < 572 by decide) dX11_undo_1 (fun _ => rfl) ?_
  refine g_aload_n 0 dX11_undo_4 rfl ?_
  refine r_get (.ref (gX E + 1)) f_X11_10_X11 rfl (by decide : kd 0 = (0, 8)) (show 0 < 572 by decide) dX11_undo_5 (fun _ => rfl) ?_
  obtain ⟨h1, hp⟩ := hp
  refine g_callV (rest := []) s_X11_332_X3 rfl (c_X3_stepBack (E := E) (d := d - 1) 1 isBk_1 (by omega)  v h1) (by decide : kd 101 = (0, 2)) (show 101 < 572 by decide) rfl rfl (Nat.le_of_ble_eq_true rfl) (by omega) (by decide) (by decide) dX11_undo_8 (adTI (fun sr2 h3 => ?_)) (axTI (fun e h3 => g_outs rfl rfl (qe (P := gqTIV Q) h3 hQ)))
  have hQ := ql (P := gqTIV Q) h3 hQ
  have hp := hp sr2 h3
  refine g_lv (lv' := []) [] rfl ?_
  exact w_X11_undo_11  hd    sr2 (f_X3_stepBack 1 v).2 hp hQ
def f_X11_undo   (v : gV) : (Int32 ⊕ String) × gV := f_X11_undo_0  v
def p_X11_undo   (v : gV) : Prop := p_X11_undo_0  v
theorem c_X11_undo {E : gE} {d : Nat}   (hd : 8 ≤ d)  (v : gV) (hp : p_X11_undo  v) : CT E m_X11_undo d 1 6 [.ref (gX E + 0)] (rS v) (Cq (gOi (f_X11_undo  v).1) (f_X11_undo  v).2) := CT.of ok_X11_undo rfl (Nat.le_of_ble_eq_true rfl) (w_X11_undo_0  hd  v hp ⟨rfl, rfl⟩)
def f_L_insure_12   (v : gV) : Int32 × gV := ((0 : Int32), v)
def p_L_insure_12   (v : gV) : Prop := True
set_option maxHeartbeats 4000000 in
set_option maxRecDepth 100000 in
theorem w_L_insure_12 {E : gE} {d : Nat} {Q : gO → gS → Prop}   (hd : 12 ≤ d)  (v : gV) (hp : p_L_insure_12    v) (hQ : gqIV Q (f_L_insure_12   v)) : gG E m_L_insure d Q 0 0 (rS v) 12 [] [] := by
  refine g_goto 23 dL_insure_12 (by decide) ?_
  refine g_iconst dL_insure_23 (0 : Int32) (by decide) ?_
  exact g_iret rfl dL_insure_24 hQ
def f_L_insure_10  (s0 : Int32) (s1 : Int32) (v : gV) : Int32 × gV := f_L_insure_12   (vL v 570 s1.toNatClampNeg s0.toInt64)
def p_L_insure_10  (s0 : Int32) (s1 : Int32) (v : gV) : Prop := (vp_in s1 1) ∧ (p_L_insure_12    (vL v 570 s1.toNatClampNeg s0.toInt64))
set_option maxHeartbeats 4000000 in
set_option maxRecDepth 100000 in
theorem w_L_insure_10 {E : gE} {d : Nat} {Q : gO → gS → Prop}   (hd : 12 ≤ d) (s0 : Int32) (s1 : Int32) (v : gV) (hp : p_L_insure_10   s0 s1 v) (hQ : gqIV Q (f_L_insure_10  s0 s1 v)) : gG E m_L_insure d Q 0 0 (rS v) 10 [] [.int s0, .int s1, .ref (gX E + 570)] := by
  refine g_i2l dL_insure_10 ?_
  obtain ⟨h4, hp⟩ := hp
  refine r_last (by decide : kd 570 = (3, 1)) (show 570 < 572 by decide) h4 dL_insure_11 ?_
  exact w_L_insure_12  hd     (vL v 570 s1.toNatClampNeg s0.toInt64) hp hQ
def f_L_insure_17   (v : gV) : Int32 × gV := ((1 : Int32), v)
def p_L_insure_17   (v : gV) : Prop := True
set_option maxHeartbeats 4000000 in
set_option maxRecDepth 100000 in
theorem w_L_insure_17 {E : gE} {d : Nat} {Q : gO → gS → Prop}   (hd : 12 ≤ d)  (v : gV) (hp : p_L_insure_17    v) (hQ : gqIV Q (f_L_insure_17   v)) : gG E m_L_insure d Q 0 0 (rS v) 17 [] [] := by
  refine g_iconst dL_insure_17 (1 : Int32) (by decide) ?_
  exact g_iret rfl dL_insure_18 hQ
def f_L_insure_21   (v : gV) : Int32 × gV := ((2 : Int32), v)
def p_L_insure_21   (v : gV) : Prop := True
set_option maxHeartbeats 4000000 in
set_option maxRecDepth 100000 in
theorem w_L_insure_21 {E : gE} {d : Nat} {Q : gO → gS → Prop}   (hd : 12 ≤ d)  (v : gV) (hp : p_L_insure_21    v) (hQ : gqIV Q (f_L_insure_21   v)) : gG E m_L_insure d Q 0 0 (rS v) 21 [] [] := by
  refine g_iconst dL_insure_21 (2 : Int32) (by decide) ?_
  exact g_iret rfl dL_insure_22 hQ
def f_L_insure_0  (x1 : Int32) (x2 : Int32) (x3 : Int32) (v : gV) : Int32 × gV := Sum.elim (fun (sr2 : Int32) => f_L_insure_10  sr2 (0 : Int32) (f_X11_insure x1 x2 x3 v).2) (fun (e : String) => if e = "java/lang/IllegalArgumentException" then (f_L_insure_17   (f_X11_insure x1 x2 x3 v).2) else (if e = "java/lang/IllegalStateException" then (f_L_insure_21   (f_X11_insure x1 x2 x3 v).2) else ((0, v)))) (f_X11_insure x1 x2 x3 v).1
def p_L_insure_0  (x1 : Int32) (x2 : Int32) (x3 : Int32) (v : gV) : Prop := (p_X11_insure x1 x2 x3 v) ∧ ((∀ (sr2 : Int32), (f_X11_insure x1 x2 x3 v).1 = Sum.inl sr2 → (p_L_insure_10   sr2 (0 : Int32) (f_X11_insure x1 x2 x3 v).2)) ∧ (∀ (e : String), (f_X11_insure x1 x2 x3 v).1 = Sum.inr e → (((e = "java/lang/IllegalArgumentException") → (p_L_insure_17    (f_X11_insure x1 x2 x3 v).2)) ∧ (¬ (e = "java/lang/IllegalArgumentException") → (((e = "java/lang/IllegalStateException") → (p_L_insure_21    (f_X11_insure x1 x2 x3 v).2)) ∧ (¬ (e = "java/lang/IllegalStateException") → (False)))))))
set_option maxHeartbeats 4000000 in
set_option maxRecDepth 100000 in
theorem w_L_insure_0 {E : gE} {d : Nat} {Q : gO → gS → Prop}   (hd : 12 ≤ d) (x1 : Int32) (x2 : Int32) (x3 : Int32) (v : gV) (hp : p_L_insure_0   x1 x2 x3 v) (hQ : gqIV Q (f_L_insure_0  x1 x2 x3 v)) : gG E m_L_insure d Q 4 24 (rS v) 0 [(0, .ref (gX E + 0)), (1, .int x1), (2, .int x2), (3, .int x3), (4, .ref (gX E + 570))] [] := by
  refine g_aload 4 dL_insure_0 rfl ?_
  refine g_iconst dL_insure_2 (0 : Int32) (by decide) ?_
  refine g_aload_n 0 dL_insure_3 rfl ?_
  refine g_iload_n 1 dL_insure_4 rfl ?_
  refine g_iload_n 2 dL_insure_5 rfl ?_
  refine g_iload_n 3 dL_insure_6 rfl ?_
  obtain ⟨h1, hp⟩ := hp
  refine g_callV (rest := [.int ((0 : Int32)), .ref (gX E + 570)]) s_L_7_X11 rfl (c_X11_insure (E := E) (d := d - 1)   (by omega) x1 x2 x3 v h1) (by decide : kd 0 = (0, 8)) (show 0 < 572 by decide) rfl rfl (Nat.le_of_ble_eq_true rfl) (by omega) (by decide) (by decide) dL_insure_7 (adTI (fun sr2 h3 => ?_)) (axTI (fun e h3 => ?_))
  · have hQ := ql (P := gqIV Q) h3 hQ
    have hp := hp.1 sr2 h3
    refine g_lv (lv' := []) [] rfl ?_
    exact w_L_insure_10  hd    sr2 (0 : Int32) (f_X11_insure x1 x2 x3 v).2 hp hQ
  · have hQ := qe (P := gqIV Q) h3 hQ
    have hp := hp.2 e h3
    by_cases h5 : e = "java/lang/IllegalArgumentException"
    · subst h5
      have hQ := qp (P := gqIV Q) rfl hQ
      have hp := hp.1 rfl
      refine g_catch2 [] (0, 12, 15, 13) [(0, 12, 19, 15)] rfl (fun z hz => absurd hz List.not_mem_nil) (by decide) (by decide) w_722 w_753 (fun q => ?_)
      refine g_astore [(5, .ref q), (0, .ref (gX E + 0)), (1, .int x1), (2, .int x2), (3, .int x3), (4, .ref (gX E + 570))] dL_insure_15 (by decide) rfl ?_
      refine g_lv (lv' := []) [] rfl ?_
      exact w_L_insure_17  hd     (f_X11_insure x1 x2 x3 v).2 hp hQ
    have hQ := qn (P := gqIV Q) h5 hQ
    have hp := hp.2 h5
    by_cases h6 : e = "java/lang/IllegalStateException"
    · subst h6
      have hQ := qp (P := gqIV Q) rfl hQ
      have hp := hp.1 rfl
      refine g_catch2 [(0, 12, 15, 13)] (0, 12, 19, 15) [] rfl (List.forall_mem_cons.mpr ⟨⟨by decide, "java/lang/IllegalArgumentException", w_722, fun s hK => gnc (by decide +kernel) hK⟩, (fun z hz => absurd hz List.not_mem_nil)⟩) (by decide) (by decide) w_723 w_834 (fun q => ?_)
      refine g_astore [(5, .ref q), (0, .ref (gX E + 0)), (1, .int x1), (2, .int x2), (3, .int x3), (4, .ref (gX E + 570))] dL_insure_19 (by decide) rfl ?_
      refine g_lv (lv' := []) [] rfl ?_
      exact w_L_insure_21  hd     (f_X11_insure x1 x2 x3 v).2 hp hQ
    have hQ := qn (P := gqIV Q) h6 hQ
    have hp := hp.2 h6
    exact hp.elim
def f_L_insure  (x1 : Int32) (x2 : Int32) (x3 : Int32) (v : gV) : Int32 × gV := f_L_insure_0 x1 x2 x3 v
def p_L_insure  (x1 : Int32) (x2 : Int32) (x3 : Int32) (v : gV) : Prop := p_L_insure_0 x1 x2 x3 v
theorem c_L_insure {E : gE} {d : Nat}   (hd : 12 ≤ d) (x1 : Int32) (x2 : Int32) (x3 : Int32) (v : gV) (hp : p_L_insure x1 x2 x3 v) : CT E m_L_insure d 4 24 [.ref (gX E + 0), .int x1, .int x2, .int x3, .ref (gX E + 570)] (rS v) (Cq (.inl (some (.int ((f_L_insure x1 x2 x3 v).1)))) (f_L_insure x1 x2 x3 v).2) := CT.ofH ok_L_insure rfl (Nat.le_of_ble_eq_true rfl) (w_L_insure_0  hd x1 x2 x3 v hp ⟨rfl, rfl⟩)
def f_L_endPolicy_9   (v : gV) : Int32 × gV := ((0 : Int32), v)
def p_L_endPolicy_9   (v : gV) : Prop := True
set_option maxHeartbeats 4000000 in
set_option maxRecDepth 100000 in
theorem w_L_endPolicy_9 {E : gE} {d : Nat} {Q : gO → gS → Prop}   (hd : 10 ≤ d)  (v : gV) (hp : p_L_endPolicy_9    v) (hQ : gqIV Q (f_L_endPolicy_9   v)) : gG E m_L_endPolicy d Q 0 0 (rS v) 9 [] [] := by
  refine g_goto 18 dL_endPolicy_9 (by decide) ?_
  refine g_iconst dL_endPolicy_18 (0 : Int32) (by decide) ?_
  exact g_iret rfl dL_endPolicy_19 hQ
def f_L_endPolicy_7  (s0 : Int32) (s1 : Int32) (v : gV) : Int32 × gV := f_L_endPolicy_9   (vL v 570 s1.toNatClampNeg s0.toInt64)
def p_L_endPolicy_7  (s0 : Int32) (s1 : Int32) (v : gV) : Prop := (vp_in s1 1) ∧ (p_L_endPolicy_9    (vL v 570 s1.toNatClampNeg s0.toInt64))
set_option maxHeartbeats 4000000 in
set_option maxRecDepth 100000 in
theorem w_L_endPolicy_7 {E : gE} {d : Nat} {Q : gO → gS → Prop}   (hd : 10 ≤ d) (s0 : Int32) (s1 : Int32) (v : gV) (hp : p_L_endPolicy_7   s0 s1 v) (hQ : gqIV Q (f_L_endPolicy_7  s0 s1 v)) : gG E m_L_endPolicy d Q 0 0 (rS v) 7 [] [.int s0, .int s1, .ref (gX E + 570)] := by
  refine g_i2l dL_endPolicy_7 ?_
  obtain ⟨h4, hp⟩ := hp
  refine r_last (by decide : kd 570 = (3, 1)) (show 570 < 572 by decide) h4 dL_endPolicy_8 ?_
  exact w_L_endPolicy_9  hd     (vL v 570 s1.toNatClampNeg s0.toInt64) hp hQ
def f_L_endPolicy_13   (v : gV) : Int32 × gV := ((1 : Int32), v)
def p_L_endPolicy_13   (v : gV) : Prop := True
set_option maxHeartbeats 4000000 in
set_option maxRecDepth 100000 in
theorem w_L_endPolicy_13 {E : gE} {d : Nat} {Q : gO → gS → Prop}   (hd : 10 ≤ d)  (v : gV) (hp : p_L_endPolicy_13    v) (hQ : gqIV Q (f_L_endPolicy_13   v)) : gG E m_L_endPolicy d Q 0 0 (rS v) 13 [] [] := by
  refine g_iconst dL_endPolicy_13 (1 : Int32) (by decide) ?_
  exact g_iret rfl dL_endPolicy_14 hQ
def f_L_endPolicy_16   (v : gV) : Int32 × gV := ((2 : Int32), v)
def p_L_endPolicy_16   (v : gV) : Prop := True
set_option maxHeartbeats 4000000 in
set_option maxRecDepth 100000 in
theorem w_L_endPolicy_16 {E : gE} {d : Nat} {Q : gO → gS → Prop}   (hd : 10 ≤ d)  (v : gV) (hp : p_L_endPolicy_16    v) (hQ : gqIV Q (f_L_endPolicy_16   v)) : gG E m_L_endPolicy d Q 0 0 (rS v) 16 [] [] := by
  refine g_iconst dL_endPolicy_16 (2 : Int32) (by decide) ?_
  exact g_iret rfl dL_endPolicy_17 hQ
def f_L_endPolicy_0  (x1 : Int32) (v : gV) : Int32 × gV := Sum.elim (fun (sr2 : Int32) => f_L_endPolicy_7  sr2 (0 : Int32) (f_X11_endPolicy x1 v).2) (fun (e : String) => if e = "java/util/NoSuchElementException" then (f_L_endPolicy_13   (f_X11_endPolicy x1 v).2) else (if e = "java/lang/IllegalStateException" then (f_L_endPolicy_16   (f_X11_endPolicy x1 v).2) else ((0, v)))) (f_X11_endPolicy x1 v).1
def p_L_endPolicy_0  (x1 : Int32) (v : gV) : Prop := (p_X11_endPolicy x1 v) ∧ ((∀ (sr2 : Int32), (f_X11_endPolicy x1 v).1 = Sum.inl sr2 → (p_L_endPolicy_7   sr2 (0 : Int32) (f_X11_endPolicy x1 v).2)) ∧ (∀ (e : String), (f_X11_endPolicy x1 v).1 = Sum.inr e → (((e = "java/util/NoSuchElementException") → (p_L_endPolicy_13    (f_X11_endPolicy x1 v).2)) ∧ (¬ (e = "java/util/NoSuchElementException") → (((e = "java/lang/IllegalStateException") → (p_L_endPolicy_16    (f_X11_endPolicy x1 v).2)) ∧ (¬ (e = "java/lang/IllegalStateException") → (False)))))))
set_option maxHeartbeats 4000000 in
set_option maxRecDepth 100000 in
theorem w_L_endPolicy_0 {E : gE} {d : Nat} {Q : gO → gS → Prop}   (hd : 10 ≤ d) (x1 : Int32) (v : gV) (hp : p_L_endPolicy_0   x1 v) (hQ : gqIV Q (f_L_endPolicy_0  x1 v)) : gG E m_L_endPolicy d Q 2 12 (rS v) 0 [(0, .ref (gX E + 0)), (1, .int x1), (2, .ref (gX E + 570))] [] := by
  refine g_aload_n 2 dL_endPolicy_0 rfl ?_
  refine g_iconst dL_endPolicy_1 (0 : Int32) (by decide) ?_
  refine g_aload_n 0 dL_endPolicy_2 rfl ?_
  refine g_iload_n 1 dL_endPolicy_3 rfl ?_
  obtain ⟨h1, hp⟩ := hp
  refine g_callV (rest := [.int ((0 : Int32)), .ref (gX E + 570)]) s_L_17_X11 rfl (c_X11_endPolicy (E := E) (d := d - 1)   (by omega) x1 v h1) (by decide : kd 0 = (0, 8)) (show 0 < 572 by decide) rfl rfl (Nat.le_of_ble_eq_true rfl) (by omega) (by decide) (by decide) dL_endPolicy_4 (adTI (fun sr2 h3 => ?_)) (axTI (fun e h3 => ?_))
  · have hQ := ql (P := gqIV Q) h3 hQ
    have hp := hp.1 sr2 h3
    refine g_lv (lv' := []) [] rfl ?_
    exact w_L_endPolicy_7  hd    sr2 (0 : Int32) (f_X11_endPolicy x1 v).2 hp hQ
  · have hQ := qe (P := gqIV Q) h3 hQ
    have hp := hp.2 e h3
    by_cases h5 : e = "java/util/NoSuchElementException"
    · subst h5
      have hQ := qp (P := gqIV Q) rfl hQ
      have hp := hp.1 rfl
      refine g_catch2 [] (0, 9, 12, 21) [(0, 9, 15, 15)] rfl (fun z hz => absurd hz List.not_mem_nil) (by decide) (by decide) w_860 w_880 (fun q => ?_)
      refine g_astore_n [(3, .ref q), (0, .ref (gX E + 0)), (1, .int x1), (2, .ref (gX E + 570))] dL_endPolicy_12 rfl (by decide) rfl ?_
      refine g_lv (lv' := []) [] rfl ?_
      exact w_L_endPolicy_13  hd     (f_X11_endPolicy x1 v).2 hp hQ
    have hQ := qn (P := gqIV Q) h5 hQ
    have hp := hp.2 h5
    by_cases h6 : e = "java/lang/IllegalStateException"
    · subst h6
      have hQ := qp (P := gqIV Q) rfl hQ
      have hp := hp.1 rfl
      refine g_catch2 [(0, 9, 12, 21)] (0, 9, 15, 15) [] rfl (List.forall_mem_cons.mpr ⟨⟨by decide, "java/util/NoSuchElementException", w_860, fun s hK => gnc (by decide +kernel) hK⟩, (fun z hz => absurd hz List.not_mem_nil)⟩) (by decide) (by decide) w_723 w_834 (fun q => ?_)
      refine g_astore_n [(3, .ref q), (0, .ref (gX E + 0)), (1, .int x1), (2, .ref (gX E + 570))] dL_endPolicy_15 rfl (by decide) rfl ?_
      refine g_lv (lv' := []) [] rfl ?_
      exact w_L_endPolicy_16  hd     (f_X11_endPolicy x1 v).2 hp hQ
    have hQ := qn (P := gqIV Q) h6 hQ
    have hp := hp.2 h6
    exact hp.elim
def f_L_endPolicy  (x1 : Int32) (v : gV) : Int32 × gV := f_L_endPolicy_0 x1 v
def p_L_endPolicy  (x1 : Int32) (v : gV) : Prop := p_L_endPolicy_0 x1 v
theorem c_L_endPolicy {E : gE} {d : Nat}   (hd : 10 ≤ d) (x1 : Int32) (v : gV) (hp : p_L_endPolicy x1 v) : CT E m_L_endPolicy d 2 12 [.ref (gX E + 0), .int x1, .ref (gX E + 570)] (rS v) (Cq (.inl (some (.int ((f_L_endPolicy x1 v).1)))) (f_L_endPolicy x1 v).2) := CT.ofH ok_L_endPolicy rfl (Nat.le_of_ble_eq_true rfl) (w_L_endPolicy_0  hd x1 v hp ⟨rfl, rfl⟩)
def f_L_addTreaty_14   (v : gV) : Int32 × gV := ((0 : Int32), v)
def p_L_addTreaty_14   (v : gV) : Prop := True
set_option maxHeartbeats 4000000 in
set_option maxRecDepth 100000 in
theorem w_L_addTreaty_14 {E : gE} {d : Nat} {Q : gO → gS → Prop}   (hd : 11 ≤ d)  (v : gV) (hp : p_L_addTreaty_14    v) (hQ : gqIV Q (f_L_addTreaty_14   v)) : gG E m_L_addTreaty d Q 0 0 (rS v) 14 [] [] := by
  refine g_goto 25 dL_addTreaty_14 (by decide) ?_
  refine g_iconst dL_addTreaty_25 (0 : Int32) (by decide) ?_
  exact g_iret rfl dL_addTreaty_26 hQ
def f_L_addTreaty_12  (s0 : Int32) (s1 : Int32) (v : gV) : Int32 × gV := f_L_addTreaty_14   (vL v 570 s1.toNatClampNeg s0.toInt64)
def p_L_addTreaty_12  (s0 : Int32) (s1 : Int32) (v : gV) : Prop := (vp_in s1 1) ∧ (p_L_addTreaty_14    (vL v 570 s1.toNatClampNeg s0.toInt64))
set_option maxHeartbeats 4000000 in
set_option maxRecDepth 100000 in
theorem w_L_addTreaty_12 {E : gE} {d : Nat} {Q : gO → gS → Prop}   (hd : 11 ≤ d) (s0 : Int32) (s1 : Int32) (v : gV) (hp : p_L_addTreaty_12   s0 s1 v) (hQ : gqIV Q (f_L_addTreaty_12  s0 s1 v)) : gG E m_L_addTreaty d Q 0 0 (rS v) 12 [] [.int s0, .int s1, .ref (gX E + 570)] := by
  refine g_i2l dL_addTreaty_12 ?_
  obtain ⟨h4, hp⟩ := hp
  refine r_last (by decide : kd 570 = (3, 1)) (show 570 < 572 by decide) h4 dL_addTreaty_13 ?_
  exact w_L_addTreaty_14  hd     (vL v 570 s1.toNatClampNeg s0.toInt64) hp hQ
def f_L_addTreaty_19   (v : gV) : Int32 × gV := ((1 : Int32), v)
def p_L_addTreaty_19   (v : gV) : Prop := True
set_option maxHeartbeats 4000000 in
set_option maxRecDepth 100000 in
theorem w_L_addTreaty_19 {E : gE} {d : Nat} {Q : gO → gS → Prop}   (hd : 11 ≤ d)  (v : gV) (hp : p_L_addTreaty_19    v) (hQ : gqIV Q (f_L_addTreaty_19   v)) : gG E m_L_addTreaty d Q 0 0 (rS v) 19 [] [] := by
  refine g_iconst dL_addTreaty_19 (1 : Int32) (by decide) ?_
  exact g_iret rfl dL_addTreaty_20 hQ
def f_L_addTreaty_23   (v : gV) : Int32 × gV := ((2 : Int32), v)
def p_L_addTreaty_23   (v : gV) : Prop := True
set_option maxHeartbeats 4000000 in
set_option maxRecDepth 100000 in
theorem w_L_addTreaty_23 {E : gE} {d : Nat} {Q : gO → gS → Prop}   (hd : 11 ≤ d)  (v : gV) (hp : p_L_addTreaty_23    v) (hQ : gqIV Q (f_L_addTreaty_23   v)) : gG E m_L_addTreaty d Q 0 0 (rS v) 23 [] [] := by
  refine g_iconst dL_addTreaty_23 (2 : Int32) (by decide) ?_
  exact g_iret rfl dL_addTreaty_24 hQ
def f_L_addTreaty_0  (x1 : Int32) (x2 : Int32) (x3 : Int32) (x4 : Int32) (v : gV) : Int32 × gV := Sum.elim (fun (sr2 : Int32) => f_L_addTreaty_12  sr2 (0 : Int32) (f_X11_addTreaty x1 x2 x3 x4 v).2) (fun (e : String) => if e = "java/lang/IllegalArgumentException" then (f_L_addTreaty_19   (f_X11_addTreaty x1 x2 x3 x4 v).2) else (if e = "java/lang/IllegalStateException" then (f_L_addTreaty_23   (f_X11_addTreaty x1 x2 x3 x4 v).2) else ((0, v)))) (f_X11_addTreaty x1 x2 x3 x4 v).1
def p_L_addTreaty_0  (x1 : Int32) (x2 : Int32) (x3 : Int32) (x4 : Int32) (v : gV) : Prop := (p_X11_addTreaty x1 x2 x3 x4 v) ∧ ((∀ (sr2 : Int32), (f_X11_addTreaty x1 x2 x3 x4 v).1 = Sum.inl sr2 → (p_L_addTreaty_12   sr2 (0 : Int32) (f_X11_addTreaty x1 x2 x3 x4 v).2)) ∧ (∀ (e : String), (f_X11_addTreaty x1 x2 x3 x4 v).1 = Sum.inr e → (((e = "java/lang/IllegalArgumentException") → (p_L_addTreaty_19    (f_X11_addTreaty x1 x2 x3 x4 v).2)) ∧ (¬ (e = "java/lang/IllegalArgumentException") → (((e = "java/lang/IllegalStateException") → (p_L_addTreaty_23    (f_X11_addTreaty x1 x2 x3 x4 v).2)) ∧ (¬ (e = "java/lang/IllegalStateException") → (False)))))))
set_option maxHeartbeats 4000000 in
set_option maxRecDepth 100000 in
theorem w_L_addTreaty_0 {E : gE} {d : Nat} {Q : gO → gS → Prop}   (hd : 11 ≤ d) (x1 : Int32) (x2 : Int32) (x3 : Int32) (x4 : Int32) (v : gV) (hp : p_L_addTreaty_0   x1 x2 x3 x4 v) (hQ : gqIV Q (f_L_addTreaty_0  x1 x2 x3 x4 v)) : gG E m_L_addTreaty d Q 5 30 (rS v) 0 [(0, .ref (gX E + 0)), (1, .int x1), (2, .int x2), (3, .int x3), (4, .int x4), (5, .ref (gX E + 570))] [] := by
  refine g_aload 5 dL_addTreaty_0 rfl ?_
  refine g_iconst dL_addTreaty_2 (0 : Int32) (by decide) ?_
  refine g_aload_n 0 dL_addTreaty_3 rfl ?_
  refine g_iload_n 1 dL_addTreaty_4 rfl ?_
  refine g_iload_n 2 dL_addTreaty_5 rfl ?_
  refine g_iload_n 3 dL_addTreaty_6 rfl ?_
  refine g_iload 4 dL_addTreaty_7 rfl ?_
  obtain ⟨h1, hp⟩ := hp
  refine g_callV (rest := [.int ((0 : Int32)), .ref (gX E + 570)]) s_L_23_X11 rfl (c_X11_addTreaty (E := E) (d := d - 1)   (by omega) x1 x2 x3 x4 v h1) (by decide : kd 0 = (0, 8)) (show 0 < 572 by decide) rfl rfl (Nat.le_of_ble_eq_true rfl) (by omega) (by decide) (by decide) dL_addTreaty_9 (adTI (fun sr2 h3 => ?_)) (axTI (fun e h3 => ?_))
  · have hQ := ql (P := gqIV Q) h3 hQ
    have hp := hp.1 sr2 h3
    refine g_lv (lv' := []) [] rfl ?_
    exact w_L_addTreaty_12  hd    sr2 (0 : Int32) (f_X11_addTreaty x1 x2 x3 x4 v).2 hp hQ
  · have hQ := qe (P := gqIV Q) h3 hQ
    have hp := hp.2 e h3
    by_cases h5 : e = "java/lang/IllegalArgumentException"
    · subst h5
      have hQ := qp (P := gqIV Q) rfl hQ
      have hp := hp.1 rfl
      refine g_catch2 [] (0, 14, 17, 13) [(0, 14, 21, 15)] rfl (fun z hz => absurd hz List.not_mem_nil) (by decide) (by decide) w_722 w_753 (fun q => ?_)
      refine g_astore [(6, .ref q), (0, .ref (gX E + 0)), (1, .int x1), (2, .int x2), (3, .int x3), (4, .int x4), (5, .ref (gX E + 570))] dL_addTreaty_17 (by decide) rfl ?_
      refine g_lv (lv' := []) [] rfl ?_
      exact w_L_addTreaty_19  hd     (f_X11_addTreaty x1 x2 x3 x4 v).2 hp hQ
    have hQ := qn (P := gqIV Q) h5 hQ
    have hp := hp.2 h5
    by_cases h6 : e = "java/lang/IllegalStateException"
    · subst h6
      have hQ := qp (P := gqIV Q) rfl hQ
      have hp := hp.1 rfl
      refine g_catch2 [(0, 14, 17, 13)] (0, 14, 21, 15) [] rfl (List.forall_mem_cons.mpr ⟨⟨by decide, "java/lang/IllegalArgumentException", w_722, fun s hK => gnc (by decide +kernel) hK⟩, (fun z hz => absurd hz List.not_mem_nil)⟩) (by decide) (by decide) w_723 w_834 (fun q => ?_)
      refine g_astore [(6, .ref q), (0, .ref (gX E + 0)), (1, .int x1), (2, .int x2), (3, .int x3), (4, .int x4), (5, .ref (gX E + 570))] dL_addTreaty_21 (by decide) rfl ?_
      refine g_lv (lv' := []) [] rfl ?_
      exact w_L_addTreaty_23  hd     (f_X11_addTreaty x1 x2 x3 x4 v).2 hp hQ
    have hQ := qn (P := gqIV Q) h6 hQ
    have hp := hp.2 h6
    exact hp.elim
def f_L_addTreaty  (x1 : Int32) (x2 : Int32) (x3 : Int32) (x4 : Int32) (v : gV) : Int32 × gV := f_L_addTreaty_0 x1 x2 x3 x4 v
def p_L_addTreaty  (x1 : Int32) (x2 : Int32) (x3 : Int32) (x4 : Int32) (v : gV) : Prop := p_L_addTreaty_0 x1 x2 x3 x4 v
theorem c_L_addTreaty {E : gE} {d : Nat}   (hd : 11 ≤ d) (x1 : Int32) (x2 : Int32) (x3 : Int32) (x4 : Int32) (v : gV) (hp : p_L_addTreaty x1 x2 x3 x4 v) : CT E m_L_addTreaty d 5 30 [.ref (gX E + 0), .int x1, .int x2, .int x3, .int x4, .ref (gX E + 570)] (rS v) (Cq (.inl (some (.int ((f_L_addTreaty x1 x2 x3 x4 v).1)))) (f_L_addTreaty x1 x2 x3 x4 v).2) := CT.ofH ok_L_addTreaty rfl (Nat.le_of_ble_eq_true rfl) (w_L_addTreaty_0  hd x1 x2 x3 x4 v hp ⟨rfl, rfl⟩)
def f_L_dropTreaty_9   (v : gV) : Int32 × gV := ((0 : Int32), v)
def p_L_dropTreaty_9   (v : gV) : Prop := True
set_option maxHeartbeats 4000000 in
set_option maxRecDepth 100000 in
theorem w_L_dropTreaty_9 {E : gE} {d : Nat} {Q : gO → gS → Prop}   (hd : 10 ≤ d)  (v : gV) (hp : p_L_dropTreaty_9    v) (hQ : gqIV Q (f_L_dropTreaty_9   v)) : gG E m_L_dropTreaty d Q 0 0 (rS v) 9 [] [] := by
  refine g_goto 18 dL_dropTreaty_9 (by decide) ?_
  refine g_iconst dL_dropTreaty_18 (0 : Int32) (by decide) ?_
  exact g_iret rfl dL_dropTreaty_19 hQ
def f_L_dropTreaty_7  (s0 : Int32) (s1 : Int32) (v : gV) : Int32 × gV := f_L_dropTreaty_9   (vL v 570 s1.toNatClampNeg s0.toInt64)
def p_L_dropTreaty_7  (s0 : Int32) (s1 : Int32) (v : gV) : Prop := (vp_in s1 1) ∧ (p_L_dropTreaty_9    (vL v 570 s1.toNatClampNeg s0.toInt64))
set_option maxHeartbeats 4000000 in
set_option maxRecDepth 100000 in
theorem w_L_dropTreaty_7 {E : gE} {d : Nat} {Q : gO → gS → Prop}   (hd : 10 ≤ d) (s0 : Int32) (s1 : Int32) (v : gV) (hp : p_L_dropTreaty_7   s0 s1 v) (hQ : gqIV Q (f_L_dropTreaty_7  s0 s1 v)) : gG E m_L_dropTreaty d Q 0 0 (rS v) 7 [] [.int s0, .int s1, .ref (gX E + 570)] := by
  refine g_i2l dL_dropTreaty_7 ?_
  obtain ⟨h4, hp⟩ := hp
  refine r_last (by decide : kd 570 = (3, 1)) (show 570 < 572 by decide) h4 dL_dropTreaty_8 ?_
  exact w_L_dropTreaty_9  hd     (vL v 570 s1.toNatClampNeg s0.toInt64) hp hQ
def f_L_dropTreaty_13   (v : gV) : Int32 × gV := ((1 : Int32), v)
def p_L_dropTreaty_13   (v : gV) : Prop := True
set_option maxHeartbeats 4000000 in
set_option maxRecDepth 100000 in
theorem w_L_dropTreaty_13 {E : gE} {d : Nat} {Q : gO → gS → Prop}   (hd : 10 ≤ d)  (v : gV) (hp : p_L_dropTreaty_13    v) (hQ : gqIV Q (f_L_dropTreaty_13   v)) : gG E m_L_dropTreaty d Q 0 0 (rS v) 13 [] [] := by
  refine g_iconst dL_dropTreaty_13 (1 : Int32) (by decide) ?_
  exact g_iret rfl dL_dropTreaty_14 hQ
def f_L_dropTreaty_16   (v : gV) : Int32 × gV := ((2 : Int32), v)
def p_L_dropTreaty_16   (v : gV) : Prop := True
set_option maxHeartbeats 4000000 in
set_option maxRecDepth 100000 in
theorem w_L_dropTreaty_16 {E : gE} {d : Nat} {Q : gO → gS → Prop}   (hd : 10 ≤ d)  (v : gV) (hp : p_L_dropTreaty_16    v) (hQ : gqIV Q (f_L_dropTreaty_16   v)) : gG E m_L_dropTreaty d Q 0 0 (rS v) 16 [] [] := by
  refine g_iconst dL_dropTreaty_16 (2 : Int32) (by decide) ?_
  exact g_iret rfl dL_dropTreaty_17 hQ
def f_L_dropTreaty_0  (x1 : Int32) (v : gV) : Int32 × gV := Sum.elim (fun (sr2 : Int32) => f_L_dropTreaty_7  sr2 (0 : Int32) (f_X11_dropTreaty x1 v).2) (fun (e : String) => if e = "java/lang/IndexOutOfBoundsException" then (f_L_dropTreaty_13   (f_X11_dropTreaty x1 v).2) else (if e = "java/lang/IllegalStateException" then (f_L_dropTreaty_16   (f_X11_dropTreaty x1 v).2) else ((0, v)))) (f_X11_dropTreaty x1 v).1
def p_L_dropTreaty_0  (x1 : Int32) (v : gV) : Prop := (p_X11_dropTreaty x1 v) ∧ ((∀ (sr2 : Int32), (f_X11_dropTreaty x1 v).1 = Sum.inl sr2 → (p_L_dropTreaty_7   sr2 (0 : Int32) (f_X11_dropTreaty x1 v).2)) ∧ (∀ (e : String), (f_X11_dropTreaty x1 v).1 = Sum.inr e → (((e = "java/lang/IndexOutOfBoundsException") → (p_L_dropTreaty_13    (f_X11_dropTreaty x1 v).2)) ∧ (¬ (e = "java/lang/IndexOutOfBoundsException") → (((e = "java/lang/IllegalStateException") → (p_L_dropTreaty_16    (f_X11_dropTreaty x1 v).2)) ∧ (¬ (e = "java/lang/IllegalStateException") → (False)))))))
set_option maxHeartbeats 4000000 in
set_option maxRecDepth 100000 in
theorem w_L_dropTreaty_0 {E : gE} {d : Nat} {Q : gO → gS → Prop}   (hd : 10 ≤ d) (x1 : Int32) (v : gV) (hp : p_L_dropTreaty_0   x1 v) (hQ : gqIV Q (f_L_dropTreaty_0  x1 v)) : gG E m_L_dropTreaty d Q 2 12 (rS v) 0 [(0, .ref (gX E + 0)), (1, .int x1), (2, .ref (gX E + 570))] [] := by
  refine g_aload_n 2 dL_dropTreaty_0 rfl ?_
  refine g_iconst dL_dropTreaty_1 (0 : Int32) (by decide) ?_
  refine g_aload_n 0 dL_dropTreaty_2 rfl ?_
  refine g_iload_n 1 dL_dropTreaty_3 rfl ?_
  obtain ⟨h1, hp⟩ := hp
  refine g_callV (rest := [.int ((0 : Int32)), .ref (gX E + 570)]) s_L_27_X11 rfl (c_X11_dropTreaty (E := E) (d := d - 1)   (by omega) x1 v h1) (by decide : kd 0 = (0, 8)) (show 0 < 572 by decide) rfl rfl (Nat.le_of_ble_eq_true rfl) (by omega) (by decide) (by decide) dL_dropTreaty_4 (adTI (fun sr2 h3 => ?_)) (axTI (fun e h3 => ?_))
  · have hQ := ql (P := gqIV Q) h3 hQ
    have hp := hp.1 sr2 h3
    refine g_lv (lv' := []) [] rfl ?_
    exact w_L_dropTreaty_7  hd    sr2 (0 : Int32) (f_X11_dropTreaty x1 v).2 hp hQ
  · have hQ := qe (P := gqIV Q) h3 hQ
    have hp := hp.2 e h3
    by_cases h5 : e = "java/lang/IndexOutOfBoundsException"
    · subst h5
      have hQ := qp (P := gqIV Q) rfl hQ
      have hp := hp.1 rfl
      refine g_catch2 [] (0, 9, 12, 30) [(0, 9, 15, 15)] rfl (fun z hz => absurd hz List.not_mem_nil) (by decide) (by decide) w_937 w_974 (fun q => ?_)
      refine g_astore_n [(3, .ref q), (0, .ref (gX E + 0)), (1, .int x1), (2, .ref (gX E + 570))] dL_dropTreaty_12 rfl (by decide) rfl ?_
      refine g_lv (lv' := []) [] rfl ?_
      exact w_L_dropTreaty_13  hd     (f_X11_dropTreaty x1 v).2 hp hQ
    have hQ := qn (P := gqIV Q) h5 hQ
    have hp := hp.2 h5
    by_cases h6 : e = "java/lang/IllegalStateException"
    · subst h6
      have hQ := qp (P := gqIV Q) rfl hQ
      have hp := hp.1 rfl
      refine g_catch2 [(0, 9, 12, 30)] (0, 9, 15, 15) [] rfl (List.forall_mem_cons.mpr ⟨⟨by decide, "java/lang/IndexOutOfBoundsException", w_937, fun s hK => gnc (by decide +kernel) hK⟩, (fun z hz => absurd hz List.not_mem_nil)⟩) (by decide) (by decide) w_723 w_834 (fun q => ?_)
      refine g_astore_n [(3, .ref q), (0, .ref (gX E + 0)), (1, .int x1), (2, .ref (gX E + 570))] dL_dropTreaty_15 rfl (by decide) rfl ?_
      refine g_lv (lv' := []) [] rfl ?_
      exact w_L_dropTreaty_16  hd     (f_X11_dropTreaty x1 v).2 hp hQ
    have hQ := qn (P := gqIV Q) h6 hQ
    have hp := hp.2 h6
    exact hp.elim
def f_L_dropTreaty  (x1 : Int32) (v : gV) : Int32 × gV := f_L_dropTreaty_0 x1 v
def p_L_dropTreaty  (x1 : Int32) (v : gV) : Prop := p_L_dropTreaty_0 x1 v
theorem c_L_dropTreaty {E : gE} {d : Nat}   (hd : 10 ≤ d) (x1 : Int32) (v : gV) (hp : p_L_dropTreaty x1 v) : CT E m_L_dropTreaty d 2 12 [.ref (gX E + 0), .int x1, .ref (gX E + 570)] (rS v) (Cq (.inl (some (.int ((f_L_dropTreaty x1 v).1)))) (f_L_dropTreaty x1 v).2) := CT.ofH ok_L_dropTreaty rfl (Nat.le_of_ble_eq_true rfl) (w_L_dropTreaty_0  hd x1 v hp ⟨rfl, rfl⟩)
def f_L_claim_12   (v : gV) : Int32 × gV := ((0 : Int32), v)
def p_L_claim_12   (v : gV) : Prop := True
set_option maxHeartbeats 4000000 in
set_option maxRecDepth 100000 in
theorem w_L_claim_12 {E : gE} {d : Nat} {Q : gO → gS → Prop}   (hd : 12 ≤ d)  (v : gV) (hp : p_L_claim_12    v) (hQ : gqIV Q (f_L_claim_12   v)) : gG E m_L_claim d Q 0 0 (rS v) 12 [] [] := by
  refine g_goto 31 dL_claim_12 (by decide) ?_
  refine g_iconst dL_claim_31 (0 : Int32) (by decide) ?_
  exact g_iret rfl dL_claim_32 hQ
def f_L_claim_10  (s0 : Int32) (s1 : Int32) (v : gV) : Int32 × gV := f_L_claim_12   (vL v 570 s1.toNatClampNeg s0.toInt64)
def p_L_claim_10  (s0 : Int32) (s1 : Int32) (v : gV) : Prop := (vp_in s1 1) ∧ (p_L_claim_12    (vL v 570 s1.toNatClampNeg s0.toInt64))
set_option maxHeartbeats 4000000 in
set_option maxRecDepth 100000 in
theorem w_L_claim_10 {E : gE} {d : Nat} {Q : gO → gS → Prop}   (hd : 12 ≤ d) (s0 : Int32) (s1 : Int32) (v : gV) (hp : p_L_claim_10   s0 s1 v) (hQ : gqIV Q (f_L_claim_10  s0 s1 v)) : gG E m_L_claim d Q 0 0 (rS v) 10 [] [.int s0, .int s1, .ref (gX E + 570)] := by
  refine g_i2l dL_claim_10 ?_
  obtain ⟨h4, hp⟩ := hp
  refine r_last (by decide : kd 570 = (3, 1)) (show 570 < 572 by decide) h4 dL_claim_11 ?_
  exact w_L_claim_12  hd     (vL v 570 s1.toNatClampNeg s0.toInt64) hp hQ
def f_L_claim_17   (v : gV) : Int32 × gV := ((1 : Int32), v)
def p_L_claim_17   (v : gV) : Prop := True
set_option maxHeartbeats 4000000 in
set_option maxRecDepth 100000 in
theorem w_L_claim_17 {E : gE} {d : Nat} {Q : gO → gS → Prop}   (hd : 12 ≤ d)  (v : gV) (hp : p_L_claim_17    v) (hQ : gqIV Q (f_L_claim_17   v)) : gG E m_L_claim d Q 0 0 (rS v) 17 [] [] := by
  refine g_iconst dL_claim_17 (1 : Int32) (by decide) ?_
  exact g_iret rfl dL_claim_18 hQ
def f_L_claim_21   (v : gV) : Int32 × gV := ((2 : Int32), v)
def p_L_claim_21   (v : gV) : Prop := True
set_option maxHeartbeats 4000000 in
set_option maxRecDepth 100000 in
theorem w_L_claim_21 {E : gE} {d : Nat} {Q : gO → gS → Prop}   (hd : 12 ≤ d)  (v : gV) (hp : p_L_claim_21    v) (hQ : gqIV Q (f_L_claim_21   v)) : gG E m_L_claim d Q 0 0 (rS v) 21 [] [] := by
  refine g_iconst dL_claim_21 (2 : Int32) (by decide) ?_
  exact g_iret rfl dL_claim_22 hQ
def f_L_claim_25   (v : gV) : Int32 × gV := ((3 : Int32), v)
def p_L_claim_25   (v : gV) : Prop := True
set_option maxHeartbeats 4000000 in
set_option maxRecDepth 100000 in
theorem w_L_claim_25 {E : gE} {d : Nat} {Q : gO → gS → Prop}   (hd : 12 ≤ d)  (v : gV) (hp : p_L_claim_25    v) (hQ : gqIV Q (f_L_claim_25   v)) : gG E m_L_claim d Q 0 0 (rS v) 25 [] [] := by
  refine g_iconst dL_claim_25 (3 : Int32) (by decide) ?_
  exact g_iret rfl dL_claim_26 hQ
def f_L_claim_29   (v : gV) : Int32 × gV := ((4 : Int32), v)
def p_L_claim_29   (v : gV) : Prop := True
set_option maxHeartbeats 4000000 in
set_option maxRecDepth 100000 in
theorem w_L_claim_29 {E : gE} {d : Nat} {Q : gO → gS → Prop}   (hd : 12 ≤ d)  (v : gV) (hp : p_L_claim_29    v) (hQ : gqIV Q (f_L_claim_29   v)) : gG E m_L_claim d Q 0 0 (rS v) 29 [] [] := by
  refine g_iconst dL_claim_29 (4 : Int32) (by decide) ?_
  exact g_iret rfl dL_claim_30 hQ
def f_L_claim_0  (x1 : Int32) (x2 : Int32) (x3 : Int32) (v : gV) : Int32 × gV := Sum.elim (fun (sr2 : Int32) => f_L_claim_10  sr2 (0 : Int32) (f_X11_claim x1 x2 x3 v).2) (fun (e : String) => if e = "java/util/NoSuchElementException" then (f_L_claim_17   (f_X11_claim x1 x2 x3 v).2) else (if e = "java/lang/IllegalArgumentException" then (f_L_claim_21   (f_X11_claim x1 x2 x3 v).2) else (if e = "java/lang/IllegalStateException" then (f_L_claim_25   (f_X11_claim x1 x2 x3 v).2) else (if e = "java/lang/UnsupportedOperationException" then (f_L_claim_29   (f_X11_claim x1 x2 x3 v).2) else ((0, v)))))) (f_X11_claim x1 x2 x3 v).1
def p_L_claim_0  (x1 : Int32) (x2 : Int32) (x3 : Int32) (v : gV) : Prop := (p_X11_claim x1 x2 x3 v) ∧ ((∀ (sr2 : Int32), (f_X11_claim x1 x2 x3 v).1 = Sum.inl sr2 → (p_L_claim_10   sr2 (0 : Int32) (f_X11_claim x1 x2 x3 v).2)) ∧ (∀ (e : String), (f_X11_claim x1 x2 x3 v).1 = Sum.inr e → (((e = "java/util/NoSuchElementException") → (p_L_claim_17    (f_X11_claim x1 x2 x3 v).2)) ∧ (¬ (e = "java/util/NoSuchElementException") → (((e = "java/lang/IllegalArgumentException") → (p_L_claim_21    (f_X11_claim x1 x2 x3 v).2)) ∧ (¬ (e = "java/lang/IllegalArgumentException") → (((e = "java/lang/IllegalStateException") → (p_L_claim_25    (f_X11_claim x1 x2 x3 v).2)) ∧ (¬ (e = "java/lang/IllegalStateException") → (((e = "java/lang/UnsupportedOperationException") → (p_L_claim_29    (f_X11_claim x1 x2 x3 v).2)) ∧ (¬ (e = "java/lang/UnsupportedOperationException") → (False)))))))))))
set_option maxHeartbeats 4000000 in
set_option maxRecDepth 100000 in
theorem w_L_claim_0 {E : gE} {d : Nat} {Q : gO → gS → Prop}   (hd : 12 ≤ d) (x1 : Int32) (x2 : Int32) (x3 : Int32) (v : gV) (hp : p_L_claim_0   x1 x2 x3 v) (hQ : gqIV Q (f_L_claim_0  x1 x2 x3 v)) : gG E m_L_claim d Q 3 18 (rS v) 0 [(0, .ref (gX E + 0)), (1, .int x1), (2, .int x2), (3, .int x3), (4, .ref (gX E + 570))] [] := by
  refine g_aload 4 dL_claim_0 rfl ?_
  refine g_iconst dL_claim_2 (0 : Int32) (by decide) ?_
  refine g_aload_n 0 dL_claim_3 rfl ?_
  refine g_iload_n 1 dL_claim_4 rfl ?_
  refine g_iload_n 2 dL_claim_5 rfl ?_
  refine g_iload_n 3 dL_claim_6 rfl ?_
  obtain ⟨h1, hp⟩ := hp
  refine g_callV (rest := [.int ((0 : Int32)), .ref (gX E + 570)]) s_L_32_X11 rfl (c_X11_claim (E := E) (d := d - 1)   (by omega) x1 x2 x3 v h1) (by decide : kd 0 = (0, 8)) (show 0 < 572 by decide) rfl rfl (Nat.le_of_ble_eq_true rfl) (by omega) (by decide) (by decide) dL_claim_7 (adTI (fun sr2 h3 => ?_)) (axTI (fun e h3 => ?_))
  · have hQ := ql (P := gqIV Q) h3 hQ
    have hp := hp.1 sr2 h3
    refine g_lv (lv' := []) [] rfl ?_
    exact w_L_claim_10  hd    sr2 (0 : Int32) (f_X11_claim x1 x2 x3 v).2 hp hQ
  · have hQ := qe (P := gqIV Q) h3 hQ
    have hp := hp.2 e h3
    by_cases h5 : e = "java/util/NoSuchElementException"
    · subst h5
      have hQ := qp (P := gqIV Q) rfl hQ
      have hp := hp.1 rfl
      refine g_catch2 [] (0, 12, 15, 21) [(0, 12, 19, 13), (0, 12, 23, 15), (0, 12, 27, 36)] rfl (fun z hz => absurd hz List.not_mem_nil) (by decide) (by decide) w_860 w_880 (fun q => ?_)
      refine g_astore [(5, .ref q), (0, .ref (gX E + 0)), (1, .int x1), (2, .int x2), (3, .int x3), (4, .ref (gX E + 570))] dL_claim_15 (by decide) rfl ?_
      refine g_lv (lv' := []) [] rfl ?_
      exact w_L_claim_17  hd     (f_X11_claim x1 x2 x3 v).2 hp hQ
    have hQ := qn (P := gqIV Q) h5 hQ
    have hp := hp.2 h5
    by_cases h6 : e = "java/lang/IllegalArgumentException"
    · subst h6
      have hQ := qp (P := gqIV Q) rfl hQ
      have hp := hp.1 rfl
      refine g_catch2 [(0, 12, 15, 21)] (0, 12, 19, 13) [(0, 12, 23, 15), (0, 12, 27, 36)] rfl (List.forall_mem_cons.mpr ⟨⟨by decide, "java/util/NoSuchElementException", w_860, fun s hK => gnc (by decide +kernel) hK⟩, (fun z hz => absurd hz List.not_mem_nil)⟩) (by decide) (by decide) w_722 w_753 (fun q => ?_)
      refine g_astore [(5, .ref q), (0, .ref (gX E + 0)), (1, .int x1), (2, .int x2), (3, .int x3), (4, .ref (gX E + 570))] dL_claim_19 (by decide) rfl ?_
      refine g_lv (lv' := []) [] rfl ?_
      exact w_L_claim_21  hd     (f_X11_claim x1 x2 x3 v).2 hp hQ
    have hQ := qn (P := gqIV Q) h6 hQ
    have hp := hp.2 h6
    by_cases h7 : e = "java/lang/IllegalStateException"
    · subst h7
      have hQ := qp (P := gqIV Q) rfl hQ
      have hp := hp.1 rfl
      refine g_catch2 [(0, 12, 15, 21), (0, 12, 19, 13)] (0, 12, 23, 15) [(0, 12, 27, 36)] rfl (List.forall_mem_cons.mpr ⟨⟨by decide, "java/util/NoSuchElementException", w_860, fun s hK => gnc (by decide +kernel) hK⟩, (List.forall_mem_cons.mpr ⟨⟨by decide, "java/lang/IllegalArgumentException", w_722, fun s hK => gnc (by decide +kernel) hK⟩, (fun z hz => absurd hz List.not_mem_nil)⟩)⟩) (by decide) (by decide) w_723 w_834 (fun q => ?_)
      refine g_astore [(5, .ref q), (0, .ref (gX E + 0)), (1, .int x1), (2, .int x2), (3, .int x3), (4, .ref (gX E + 570))] dL_claim_23 (by decide) rfl ?_
      refine g_lv (lv' := []) [] rfl ?_
      exact w_L_claim_25  hd     (f_X11_claim x1 x2 x3 v).2 hp hQ
    have hQ := qn (P := gqIV Q) h7 hQ
    have hp := hp.2 h7
    by_cases h8 : e = "java/lang/UnsupportedOperationException"
    · subst h8
      have hQ := qp (P := gqIV Q) rfl hQ
      have hp := hp.1 rfl
      refine g_catch2 [(0, 12, 15, 21), (0, 12, 19, 13), (0, 12, 23, 15)] (0, 12, 27, 36) [] rfl (List.forall_mem_cons.mpr ⟨⟨by decide, "java/util/NoSuchElementException", w_860, fun s hK => gnc (by decide +kernel) hK⟩, (List.forall_mem_cons.mpr ⟨⟨by decide, "java/lang/IllegalArgumentException", w_722, fun s hK => gnc (by decide +kernel) hK⟩, (List.forall_mem_cons.mpr ⟨⟨by decide, "java/lang/IllegalStateException", w_723, fun s hK => gnc (by decide +kernel) hK⟩, (fun z hz => absurd hz List.not_mem_nil)⟩)⟩)⟩) (by decide) (by decide) w_999 w_1025 (fun q => ?_)
      refine g_astore [(5, .ref q), (0, .ref (gX E + 0)), (1, .int x1), (2, .int x2), (3, .int x3), (4, .ref (gX E + 570))] dL_claim_27 (by decide) rfl ?_
      refine g_lv (lv' := []) [] rfl ?_
      exact w_L_claim_29  hd     (f_X11_claim x1 x2 x3 v).2 hp hQ
    have hQ := qn (P := gqIV Q) h8 hQ
    have hp := hp.2 h8
    exact hp.elim
def f_L_claim  (x1 : Int32) (x2 : Int32) (x3 : Int32) (v : gV) : Int32 × gV := f_L_claim_0 x1 x2 x3 v
def p_L_claim  (x1 : Int32) (x2 : Int32) (x3 : Int32) (v : gV) : Prop := p_L_claim_0 x1 x2 x3 v
theorem c_L_claim {E : gE} {d : Nat}   (hd : 12 ≤ d) (x1 : Int32) (x2 : Int32) (x3 : Int32) (v : gV) (hp : p_L_claim x1 x2 x3 v) : CT E m_L_claim d 3 18 [.ref (gX E + 0), .int x1, .int x2, .int x3, .ref (gX E + 570)] (rS v) (Cq (.inl (some (.int ((f_L_claim x1 x2 x3 v).1)))) (f_L_claim x1 x2 x3 v).2) := CT.ofH ok_L_claim rfl (Nat.le_of_ble_eq_true rfl) (w_L_claim_0  hd x1 x2 x3 v hp ⟨rfl, rfl⟩)
def f_L_pay_10   (v : gV) : Int32 × gV := ((0 : Int32), v)
def p_L_pay_10   (v : gV) : Prop := True
set_option maxHeartbeats 4000000 in
set_option maxRecDepth 100000 in
theorem w_L_pay_10 {E : gE} {d : Nat} {Q : gO → gS → Prop}   (hd : 10 ≤ d)  (v : gV) (hp : p_L_pay_10    v) (hQ : gqIV Q (f_L_pay_10   v)) : gG E m_L_pay d Q 0 0 (rS v) 10 [] [] := by
  refine g_goto 25 dL_pay_10 (by decide) ?_
  refine g_iconst dL_pay_25 (0 : Int32) (by decide) ?_
  exact g_iret rfl dL_pay_26 hQ
def f_L_pay_8  (s0 : Int32) (s1 : Int32) (v : gV) : Int32 × gV := f_L_pay_10   (vL v 570 s1.toNatClampNeg s0.toInt64)
def p_L_pay_8  (s0 : Int32) (s1 : Int32) (v : gV) : Prop := (vp_in s1 1) ∧ (p_L_pay_10    (vL v 570 s1.toNatClampNeg s0.toInt64))
set_option maxHeartbeats 4000000 in
set_option maxRecDepth 100000 in
theorem w_L_pay_8 {E : gE} {d : Nat} {Q : gO → gS → Prop}   (hd : 10 ≤ d) (s0 : Int32) (s1 : Int32) (v : gV) (hp : p_L_pay_8   s0 s1 v) (hQ : gqIV Q (f_L_pay_8  s0 s1 v)) : gG E m_L_pay d Q 0 0 (rS v) 8 [] [.int s0, .int s1, .ref (gX E + 570)] := by
  refine g_i2l dL_pay_8 ?_
  obtain ⟨h4, hp⟩ := hp
  refine r_last (by decide : kd 570 = (3, 1)) (show 570 < 572 by decide) h4 dL_pay_9 ?_
  exact w_L_pay_10  hd     (vL v 570 s1.toNatClampNeg s0.toInt64) hp hQ
def f_L_pay_15   (v : gV) : Int32 × gV := ((1 : Int32), v)
def p_L_pay_15   (v : gV) : Prop := True
set_option maxHeartbeats 4000000 in
set_option maxRecDepth 100000 in
theorem w_L_pay_15 {E : gE} {d : Nat} {Q : gO → gS → Prop}   (hd : 10 ≤ d)  (v : gV) (hp : p_L_pay_15    v) (hQ : gqIV Q (f_L_pay_15   v)) : gG E m_L_pay d Q 0 0 (rS v) 15 [] [] := by
  refine g_iconst dL_pay_15 (1 : Int32) (by decide) ?_
  exact g_iret rfl dL_pay_16 hQ
def f_L_pay_19   (v : gV) : Int32 × gV := ((2 : Int32), v)
def p_L_pay_19   (v : gV) : Prop := True
set_option maxHeartbeats 4000000 in
set_option maxRecDepth 100000 in
theorem w_L_pay_19 {E : gE} {d : Nat} {Q : gO → gS → Prop}   (hd : 10 ≤ d)  (v : gV) (hp : p_L_pay_19    v) (hQ : gqIV Q (f_L_pay_19   v)) : gG E m_L_pay d Q 0 0 (rS v) 19 [] [] := by
  refine g_iconst dL_pay_19 (2 : Int32) (by decide) ?_
  exact g_iret rfl dL_pay_20 hQ
def f_L_pay_23   (v : gV) : Int32 × gV := ((3 : Int32), v)
def p_L_pay_23   (v : gV) : Prop := True
set_option maxHeartbeats 4000000 in
set_option maxRecDepth 100000 in
theorem w_L_pay_23 {E : gE} {d : Nat} {Q : gO → gS → Prop}   (hd : 10 ≤ d)  (v : gV) (hp : p_L_pay_23    v) (hQ : gqIV Q (f_L_pay_23   v)) : gG E m_L_pay d Q 0 0 (rS v) 23 [] [] := by
  refine g_iconst dL_pay_23 (3 : Int32) (by decide) ?_
  exact g_iret rfl dL_pay_24 hQ
def f_L_pay_0  (x1 : Int32) (x2 : Int32) (v : gV) : Int32 × gV := Sum.elim (fun (sr2 : Int32) => f_L_pay_8  sr2 (0 : Int32) (f_X11_pay x1 x2 v).2) (fun (e : String) => if e = "java/util/NoSuchElementException" then (f_L_pay_15   (f_X11_pay x1 x2 v).2) else (if e = "java/lang/IllegalArgumentException" then (f_L_pay_19   (f_X11_pay x1 x2 v).2) else (if e = "java/lang/IllegalStateException" then (f_L_pay_23   (f_X11_pay x1 x2 v).2) else ((0, v))))) (f_X11_pay x1 x2 v).1
def p_L_pay_0  (x1 : Int32) (x2 : Int32) (v : gV) : Prop := (p_X11_pay x1 x2 v) ∧ ((∀ (sr2 : Int32), (f_X11_pay x1 x2 v).1 = Sum.inl sr2 → (p_L_pay_8   sr2 (0 : Int32) (f_X11_pay x1 x2 v).2)) ∧ (∀ (e : String), (f_X11_pay x1 x2 v).1 = Sum.inr e → (((e = "java/util/NoSuchElementException") → (p_L_pay_15    (f_X11_pay x1 x2 v).2)) ∧ (¬ (e = "java/util/NoSuchElementException") → (((e = "java/lang/IllegalArgumentException") → (p_L_pay_19    (f_X11_pay x1 x2 v).2)) ∧ (¬ (e = "java/lang/IllegalArgumentException") → (((e = "java/lang/IllegalStateException") → (p_L_pay_23    (f_X11_pay x1 x2 v).2)) ∧ (¬ (e = "java/lang/IllegalStateException") → (False)))))))))
set_option maxHeartbeats 4000000 in
set_option maxRecDepth 100000 in
theorem w_L_pay_0 {E : gE} {d : Nat} {Q : gO → gS → Prop}   (hd : 10 ≤ d) (x1 : Int32) (x2 : Int32) (v : gV) (hp : p_L_pay_0   x1 x2 v) (hQ : gqIV Q (f_L_pay_0  x1 x2 v)) : gG E m_L_pay d Q 3 18 (rS v) 0 [(0, .ref (gX E + 0)), (1, .int x1), (2, .int x2), (3, .ref (gX E + 570))] [] := by
  refine g_aload_n 3 dL_pay_0 rfl ?_
  refine g_iconst dL_pay_1 (0 : Int32) (by decide) ?_
  refine g_aload_n 0 dL_pay_2 rfl ?_
  refine g_iload_n 1 dL_pay_3 rfl ?_
  refine g_iload_n 2 dL_pay_4 rfl ?_
  obtain ⟨h1, hp⟩ := hp
  refine g_callV (rest := [.int ((0 : Int32)), .ref (gX E + 570)]) s_L_38_X11 rfl (c_X11_pay (E := E) (d := d - 1)   (by omega) x1 x2 v h1) (by decide : kd 0 = (0, 8)) (show 0 < 572 by decide) rfl rfl (Nat.le_of_ble_eq_true rfl) (by omega) (by decide) (by decide) dL_pay_5 (adTI (fun sr2 h3 => ?_)) (axTI (fun e h3 => ?_))
  · have hQ := ql (P := gqIV Q) h3 hQ
    have hp := hp.1 sr2 h3
    refine g_lv (lv' := []) [] rfl ?_
    exact w_L_pay_8  hd    sr2 (0 : Int32) (f_X11_pay x1 x2 v).2 hp hQ
  · have hQ := qe (P := gqIV Q) h3 hQ
    have hp := hp.2 e h3
    by_cases h5 : e = "java/util/NoSuchElementException"
    · subst h5
      have hQ := qp (P := gqIV Q) rfl hQ
      have hp := hp.1 rfl
      refine g_catch2 [] (0, 10, 13, 21) [(0, 10, 17, 13), (0, 10, 21, 15)] rfl (fun z hz => absurd hz List.not_mem_nil) (by decide) (by decide) w_860 w_880 (fun q => ?_)
      refine g_astore [(4, .ref q), (0, .ref (gX E + 0)), (1, .int x1), (2, .int x2), (3, .ref (gX E + 570))] dL_pay_13 (by decide) rfl ?_
      refine g_lv (lv' := []) [] rfl ?_
      exact w_L_pay_15  hd     (f_X11_pay x1 x2 v).2 hp hQ
    have hQ := qn (P := gqIV Q) h5 hQ
    have hp := hp.2 h5
    by_cases h6 : e = "java/lang/IllegalArgumentException"
    · subst h6
      have hQ := qp (P := gqIV Q) rfl hQ
      have hp := hp.1 rfl
      refine g_catch2 [(0, 10, 13, 21)] (0, 10, 17, 13) [(0, 10, 21, 15)] rfl (List.forall_mem_cons.mpr ⟨⟨by decide, "java/util/NoSuchElementException", w_860, fun s hK => gnc (by decide +kernel) hK⟩, (fun z hz => absurd hz List.not_mem_nil)⟩) (by decide) (by decide) w_722 w_753 (fun q => ?_)
      refine g_astore [(4, .ref q), (0, .ref (gX E + 0)), (1, .int x1), (2, .int x2), (3, .ref (gX E + 570))] dL_pay_17 (by decide) rfl ?_
      refine g_lv (lv' := []) [] rfl ?_
      exact w_L_pay_19  hd     (f_X11_pay x1 x2 v).2 hp hQ
    have hQ := qn (P := gqIV Q) h6 hQ
    have hp := hp.2 h6
    by_cases h7 : e = "java/lang/IllegalStateException"
    · subst h7
      have hQ := qp (P := gqIV Q) rfl hQ
      have hp := hp.1 rfl
      refine g_catch2 [(0, 10, 13, 21), (0, 10, 17, 13)] (0, 10, 21, 15) [] rfl (List.forall_mem_cons.mpr ⟨⟨by decide, "java/util/NoSuchElementException", w_860, fun s hK => gnc (by decide +kernel) hK⟩, (List.forall_mem_cons.mpr ⟨⟨by decide, "java/lang/IllegalArgumentException", w_722, fun s hK => gnc (by decide +kernel) hK⟩, (fun z hz => absurd hz List.not_mem_nil)⟩)⟩) (by decide) (by decide) w_723 w_834 (fun q => ?_)
      refine g_astore [(4, .ref q), (0, .ref (gX E + 0)), (1, .int x1), (2, .int x2), (3, .ref (gX E + 570))] dL_pay_21 (by decide) rfl ?_
      refine g_lv (lv' := []) [] rfl ?_
      exact w_L_pay_23  hd     (f_X11_pay x1 x2 v).2 hp hQ
    have hQ := qn (P := gqIV Q) h7 hQ
    have hp := hp.2 h7
    exact hp.elim
def f_L_pay  (x1 : Int32) (x2 : Int32) (v : gV) : Int32 × gV := f_L_pay_0 x1 x2 v
def p_L_pay  (x1 : Int32) (x2 : Int32) (v : gV) : Prop := p_L_pay_0 x1 x2 v
theorem c_L_pay {E : gE} {d : Nat}   (hd : 10 ≤ d) (x1 : Int32) (x2 : Int32) (v : gV) (hp : p_L_pay x1 x2 v) : CT E m_L_pay d 3 18 [.ref (gX E + 0), .int x1, .int x2, .ref (gX E + 570)] (rS v) (Cq (.inl (some (.int ((f_L_pay x1 x2 v).1)))) (f_L_pay x1 x2 v).2) := CT.ofH ok_L_pay rfl (Nat.le_of_ble_eq_true rfl) (w_L_pay_0  hd x1 x2 v hp ⟨rfl, rfl⟩)
def f_L_closeClaim_9   (v : gV) : Int32 × gV := ((0 : Int32), v)
def p_L_closeClaim_9   (v : gV) : Prop := True
set_option maxHeartbeats 4000000 in
set_option maxRecDepth 100000 in
theorem w_L_closeClaim_9 {E : gE} {d : Nat} {Q : gO → gS → Prop}   (hd : 10 ≤ d)  (v : gV) (hp : p_L_closeClaim_9    v) (hQ : gqIV Q (f_L_closeClaim_9   v)) : gG E m_L_closeClaim d Q 0 0 (rS v) 9 [] [] := by
  refine g_goto 18 dL_closeClaim_9 (by decide) ?_
  refine g_iconst dL_closeClaim_18 (0 : Int32) (by decide) ?_
  exact g_iret rfl dL_closeClaim_19 hQ
def f_L_closeClaim_7  (s0 : Int32) (s1 : Int32) (v : gV) : Int32 × gV := f_L_closeClaim_9   (vL v 570 s1.toNatClampNeg s0.toInt64)
def p_L_closeClaim_7  (s0 : Int32) (s1 : Int32) (v : gV) : Prop := (vp_in s1 1) ∧ (p_L_closeClaim_9    (vL v 570 s1.toNatClampNeg s0.toInt64))
set_option maxHeartbeats 4000000 in
set_option maxRecDepth 100000 in
theorem w_L_closeClaim_7 {E : gE} {d : Nat} {Q : gO → gS → Prop}   (hd : 10 ≤ d) (s0 : Int32) (s1 : Int32) (v : gV) (hp : p_L_closeClaim_7   s0 s1 v) (hQ : gqIV Q (f_L_closeClaim_7  s0 s1 v)) : gG E m_L_closeClaim d Q 0 0 (rS v) 7 [] [.int s0, .int s1, .ref (gX E + 570)] := by
  refine g_i2l dL_closeClaim_7 ?_
  obtain ⟨h4, hp⟩ := hp
  refine r_last (by decide : kd 570 = (3, 1)) (show 570 < 572 by decide) h4 dL_closeClaim_8 ?_
  exact w_L_closeClaim_9  hd     (vL v 570 s1.toNatClampNeg s0.toInt64) hp hQ
def f_L_closeClaim_13   (v : gV) : Int32 × gV := ((1 : Int32), v)
def p_L_closeClaim_13   (v : gV) : Prop := True
set_option maxHeartbeats 4000000 in
set_option maxRecDepth 100000 in
theorem w_L_closeClaim_13 {E : gE} {d : Nat} {Q : gO → gS → Prop}   (hd : 10 ≤ d)  (v : gV) (hp : p_L_closeClaim_13    v) (hQ : gqIV Q (f_L_closeClaim_13   v)) : gG E m_L_closeClaim d Q 0 0 (rS v) 13 [] [] := by
  refine g_iconst dL_closeClaim_13 (1 : Int32) (by decide) ?_
  exact g_iret rfl dL_closeClaim_14 hQ
def f_L_closeClaim_16   (v : gV) : Int32 × gV := ((2 : Int32), v)
def p_L_closeClaim_16   (v : gV) : Prop := True
set_option maxHeartbeats 4000000 in
set_option maxRecDepth 100000 in
theorem w_L_closeClaim_16 {E : gE} {d : Nat} {Q : gO → gS → Prop}   (hd : 10 ≤ d)  (v : gV) (hp : p_L_closeClaim_16    v) (hQ : gqIV Q (f_L_closeClaim_16   v)) : gG E m_L_closeClaim d Q 0 0 (rS v) 16 [] [] := by
  refine g_iconst dL_closeClaim_16 (2 : Int32) (by decide) ?_
  exact g_iret rfl dL_closeClaim_17 hQ
def f_L_closeClaim_0  (x1 : Int32) (v : gV) : Int32 × gV := Sum.elim (fun (sr2 : Int32) => f_L_closeClaim_7  sr2 (0 : Int32) (f_X11_closeClaim x1 v).2) (fun (e : String) => if e = "java/util/NoSuchElementException" then (f_L_closeClaim_13   (f_X11_closeClaim x1 v).2) else (if e = "java/lang/IllegalStateException" then (f_L_closeClaim_16   (f_X11_closeClaim x1 v).2) else ((0, v)))) (f_X11_closeClaim x1 v).1
def p_L_closeClaim_0  (x1 : Int32) (v : gV) : Prop := (p_X11_closeClaim x1 v) ∧ ((∀ (sr2 : Int32), (f_X11_closeClaim x1 v).1 = Sum.inl sr2 → (p_L_closeClaim_7   sr2 (0 : Int32) (f_X11_closeClaim x1 v).2)) ∧ (∀ (e : String), (f_X11_closeClaim x1 v).1 = Sum.inr e → (((e = "java/util/NoSuchElementException") → (p_L_closeClaim_13    (f_X11_closeClaim x1 v).2)) ∧ (¬ (e = "java/util/NoSuchElementException") → (((e = "java/lang/IllegalStateException") → (p_L_closeClaim_16    (f_X11_closeClaim x1 v).2)) ∧ (¬ (e = "java/lang/IllegalStateException") → (False)))))))
set_option maxHeartbeats 4000000 in
set_option maxRecDepth 100000 in
theorem w_L_closeClaim_0 {E : gE} {d : Nat} {Q : gO → gS → Prop}   (hd : 10 ≤ d) (x1 : Int32) (v : gV) (hp : p_L_closeClaim_0   x1 v) (hQ : gqIV Q (f_L_closeClaim_0  x1 v)) : gG E m_L_closeClaim d Q 2 12 (rS v) 0 [(0, .ref (gX E + 0)), (1, .int x1), (2, .ref (gX E + 570))] [] := by
  refine g_aload_n 2 dL_closeClaim_0 rfl ?_
  refine g_iconst dL_closeClaim_1 (0 : Int32) (by decide) ?_
  refine g_aload_n 0 dL_closeClaim_2 rfl ?_
  refine g_iload_n 1 dL_closeClaim_3 rfl ?_
  obtain ⟨h1, hp⟩ := hp
  refine g_callV (rest := [.int ((0 : Int32)), .ref (gX E + 570)]) s_L_42_X11 rfl (c_X11_closeClaim (E := E) (d := d - 1)   (by omega) x1 v h1) (by decide : kd 0 = (0, 8)) (show 0 < 572 by decide) rfl rfl (Nat.le_of_ble_eq_true rfl) (by omega) (by decide) (by decide) dL_closeClaim_4 (adTI (fun sr2 h3 => ?_)) (axTI (fun e h3 => ?_))
  · have hQ := ql (P := gqIV Q) h3 hQ
    have hp := hp.1 sr2 h3
    refine g_lv (lv' := []) [] rfl ?_
    exact w_L_closeClaim_7  hd    sr2 (0 : Int32) (f_X11_closeClaim x1 v).2 hp hQ
  · have hQ := qe (P := gqIV Q) h3 hQ
    have hp := hp.2 e h3
    by_cases h5 : e = "java/util/NoSuchElementException"
    · subst h5
      have hQ := qp (P := gqIV Q) rfl hQ
      have hp := hp.1 rfl
      refine g_catch2 [] (0, 9, 12, 21) [(0, 9, 15, 15)] rfl (fun z hz => absurd hz List.not_mem_nil) (by decide) (by decide) w_860 w_880 (fun q => ?_)
      refine g_astore_n [(3, .ref q), (0, .ref (gX E + 0)), (1, .int x1), (2, .ref (gX E + 570))] dL_closeClaim_12 rfl (by decide) rfl ?_
      refine g_lv (lv' := []) [] rfl ?_
      exact w_L_closeClaim_13  hd     (f_X11_closeClaim x1 v).2 hp hQ
    have hQ := qn (P := gqIV Q) h5 hQ
    have hp := hp.2 h5
    by_cases h6 : e = "java/lang/IllegalStateException"
    · subst h6
      have hQ := qp (P := gqIV Q) rfl hQ
      have hp := hp.1 rfl
      refine g_catch2 [(0, 9, 12, 21)] (0, 9, 15, 15) [] rfl (List.forall_mem_cons.mpr ⟨⟨by decide, "java/util/NoSuchElementException", w_860, fun s hK => gnc (by decide +kernel) hK⟩, (fun z hz => absurd hz List.not_mem_nil)⟩) (by decide) (by decide) w_723 w_834 (fun q => ?_)
      refine g_astore_n [(3, .ref q), (0, .ref (gX E + 0)), (1, .int x1), (2, .ref (gX E + 570))] dL_closeClaim_15 rfl (by decide) rfl ?_
      refine g_lv (lv' := []) [] rfl ?_
      exact w_L_closeClaim_16  hd     (f_X11_closeClaim x1 v).2 hp hQ
    have hQ := qn (P := gqIV Q) h6 hQ
    have hp := hp.2 h6
    exact hp.elim
def f_L_closeClaim  (x1 : Int32) (v : gV) : Int32 × gV := f_L_closeClaim_0 x1 v
def p_L_closeClaim  (x1 : Int32) (v : gV) : Prop := p_L_closeClaim_0 x1 v
theorem c_L_closeClaim {E : gE} {d : Nat}   (hd : 10 ≤ d) (x1 : Int32) (v : gV) (hp : p_L_closeClaim x1 v) : CT E m_L_closeClaim d 2 12 [.ref (gX E + 0), .int x1, .ref (gX E + 570)] (rS v) (Cq (.inl (some (.int ((f_L_closeClaim x1 v).1)))) (f_L_closeClaim x1 v).2) := CT.ofH ok_L_closeClaim rfl (Nat.le_of_ble_eq_true rfl) (w_L_closeClaim_0  hd x1 v hp ⟨rfl, rfl⟩)
def f_L_withdrawClaim_9   (v : gV) : Int32 × gV := ((0 : Int32), v)
def p_L_withdrawClaim_9   (v : gV) : Prop := True
set_option maxHeartbeats 4000000 in
set_option maxRecDepth 100000 in
theorem w_L_withdrawClaim_9 {E : gE} {d : Nat} {Q : gO → gS → Prop}   (hd : 10 ≤ d)  (v : gV) (hp : p_L_withdrawClaim_9    v) (hQ : gqIV Q (f_L_withdrawClaim_9   v)) : gG E m_L_withdrawClaim d Q 0 0 (rS v) 9 [] [] := by
  refine g_goto 18 dL_withdrawClaim_9 (by decide) ?_
  refine g_iconst dL_withdrawClaim_18 (0 : Int32) (by decide) ?_
  exact g_iret rfl dL_withdrawClaim_19 hQ
def f_L_withdrawClaim_7  (s0 : Int32) (s1 : Int32) (v : gV) : Int32 × gV := f_L_withdrawClaim_9   (vL v 570 s1.toNatClampNeg s0.toInt64)
def p_L_withdrawClaim_7  (s0 : Int32) (s1 : Int32) (v : gV) : Prop := (vp_in s1 1) ∧ (p_L_withdrawClaim_9    (vL v 570 s1.toNatClampNeg s0.toInt64))
set_option maxHeartbeats 4000000 in
set_option maxRecDepth 100000 in
theorem w_L_withdrawClaim_7 {E : gE} {d : Nat} {Q : gO → gS → Prop}   (hd : 10 ≤ d) (s0 : Int32) (s1 : Int32) (v : gV) (hp : p_L_withdrawClaim_7   s0 s1 v) (hQ : gqIV Q (f_L_withdrawClaim_7  s0 s1 v)) : gG E m_L_withdrawClaim d Q 0 0 (rS v) 7 [] [.int s0, .int s1, .ref (gX E + 570)] := by
  refine g_i2l dL_withdrawClaim_7 ?_
  obtain ⟨h4, hp⟩ := hp
  refine r_last (by decide : kd 570 = (3, 1)) (show 570 < 572 by decide) h4 dL_withdrawClaim_8 ?_
  exact w_L_withdrawClaim_9  hd     (vL v 570 s1.toNatClampNeg s0.toInt64) hp hQ
def f_L_withdrawClaim_13   (v : gV) : Int32 × gV := ((1 : Int32), v)
def p_L_withdrawClaim_13   (v : gV) : Prop := True
set_option maxHeartbeats 4000000 in
set_option maxRecDepth 100000 in
theorem w_L_withdrawClaim_13 {E : gE} {d : Nat} {Q : gO → gS → Prop}   (hd : 10 ≤ d)  (v : gV) (hp : p_L_withdrawClaim_13    v) (hQ : gqIV Q (f_L_withdrawClaim_13   v)) : gG E m_L_withdrawClaim d Q 0 0 (rS v) 13 [] [] := by
  refine g_iconst dL_withdrawClaim_13 (1 : Int32) (by decide) ?_
  exact g_iret rfl dL_withdrawClaim_14 hQ
def f_L_withdrawClaim_16   (v : gV) : Int32 × gV := ((2 : Int32), v)
def p_L_withdrawClaim_16   (v : gV) : Prop := True
set_option maxHeartbeats 4000000 in
set_option maxRecDepth 100000 in
theorem w_L_withdrawClaim_16 {E : gE} {d : Nat} {Q : gO → gS → Prop}   (hd : 10 ≤ d)  (v : gV) (hp : p_L_withdrawClaim_16    v) (hQ : gqIV Q (f_L_withdrawClaim_16   v)) : gG E m_L_withdrawClaim d Q 0 0 (rS v) 16 [] [] := by
  refine g_iconst dL_withdrawClaim_16 (2 : Int32) (by decide) ?_
  exact g_iret rfl dL_withdrawClaim_17 hQ
def f_L_withdrawClaim_0  (x1 : Int32) (v : gV) : Int32 × gV := Sum.elim (fun (sr2 : Int32) => f_L_withdrawClaim_7  sr2 (0 : Int32) (f_X11_withdrawClaim x1 v).2) (fun (e : String) => if e = "java/util/NoSuchElementException" then (f_L_withdrawClaim_13   (f_X11_withdrawClaim x1 v).2) else (if e = "java/lang/IllegalStateException" then (f_L_withdrawClaim_16   (f_X11_withdrawClaim x1 v).2) else ((0, v)))) (f_X11_withdrawClaim x1 v).1
def p_L_withdrawClaim_0  (x1 : Int32) (v : gV) : Prop := (p_X11_withdrawClaim x1 v) ∧ ((∀ (sr2 : Int32), (f_X11_withdrawClaim x1 v).1 = Sum.inl sr2 → (p_L_withdrawClaim_7   sr2 (0 : Int32) (f_X11_withdrawClaim x1 v).2)) ∧ (∀ (e : String), (f_X11_withdrawClaim x1 v).1 = Sum.inr e → (((e = "java/util/NoSuchElementException") → (p_L_withdrawClaim_13    (f_X11_withdrawClaim x1 v).2)) ∧ (¬ (e = "java/util/NoSuchElementException") → (((e = "java/lang/IllegalStateException") → (p_L_withdrawClaim_16    (f_X11_withdrawClaim x1 v).2)) ∧ (¬ (e = "java/lang/IllegalStateException") → (False)))))))
set_option maxHeartbeats 4000000 in
set_option maxRecDepth 100000 in
theorem w_L_withdrawClaim_0 {E : gE} {d : Nat} {Q : gO → gS → Prop}   (hd : 10 ≤ d) (x1 : Int32) (v : gV) (hp : p_L_withdrawClaim_0   x1 v) (hQ : gqIV Q (f_L_withdrawClaim_0  x1 v)) : gG E m_L_withdrawClaim d Q 2 12 (rS v) 0 [(0, .ref (gX E + 0)), (1, .int x1), (2, .ref (gX E + 570))] [] := by
  refine g_aload_n 2 dL_withdrawClaim_0 rfl ?_
  refine g_iconst dL_withdrawClaim_1 (0 : Int32) (by decide) ?_
  refine g_aload_n 0 dL_withdrawClaim_2 rfl ?_
  refine g_iload_n 1 dL_withdrawClaim_3 rfl ?_
  obtain ⟨h1, hp⟩ := hp
  refine g_callV (rest := [.int ((0 : Int32)), .ref (gX E + 570)]) s_L_45_X11 rfl (c_X11_withdrawClaim (E := E) (d := d - 1)   (by omega) x1 v h1) (by decide : kd 0 = (0, 8)) (show 0 < 572 by decide) rfl rfl (Nat.le_of_ble_eq_true rfl) (by omega) (by decide) (by decide) dL_withdrawClaim_4 (adTI (fun sr2 h3 => ?_)) (axTI (fun e h3 => ?_))
  · have hQ := ql (P := gqIV Q) h3 hQ
    have hp := hp.1 sr2 h3
    refine g_lv (lv' := []) [] rfl ?_
    exact w_L_withdrawClaim_7  hd    sr2 (0 : Int32) (f_X11_withdrawClaim x1 v).2 hp hQ
  · have hQ := qe (P := gqIV Q) h3 hQ
    have hp := hp.2 e h3
    by_cases h5 : e = "java/util/NoSuchElementException"
    · subst h5
      have hQ := qp (P := gqIV Q) rfl hQ
      have hp := hp.1 rfl
      refine g_catch2 [] (0, 9, 12, 21) [(0, 9, 15, 15)] rfl (fun z hz => absurd hz List.not_mem_nil) (by decide) (by decide) w_860 w_880 (fun q => ?_)
      refine g_astore_n [(3, .ref q), (0, .ref (gX E + 0)), (1, .int x1), (2, .ref (gX E + 570))] dL_withdrawClaim_12 rfl (by decide) rfl ?_
      refine g_lv (lv' := []) [] rfl ?_
      exact w_L_withdrawClaim_13  hd     (f_X11_withdrawClaim x1 v).2 hp hQ
    have hQ := qn (P := gqIV Q) h5 hQ
    have hp := hp.2 h5
    by_cases h6 : e = "java/lang/IllegalStateException"
    · subst h6
      have hQ := qp (P := gqIV Q) rfl hQ
      have hp := hp.1 rfl
      refine g_catch2 [(0, 9, 12, 21)] (0, 9, 15, 15) [] rfl (List.forall_mem_cons.mpr ⟨⟨by decide, "java/util/NoSuchElementException", w_860, fun s hK => gnc (by decide +kernel) hK⟩, (fun z hz => absurd hz List.not_mem_nil)⟩) (by decide) (by decide) w_723 w_834 (fun q => ?_)
      refine g_astore_n [(3, .ref q), (0, .ref (gX E + 0)), (1, .int x1), (2, .ref (gX E + 570))] dL_withdrawClaim_15 rfl (by decide) rfl ?_
      refine g_lv (lv' := []) [] rfl ?_
      exact w_L_withdrawClaim_16  hd     (f_X11_withdrawClaim x1 v).2 hp hQ
    have hQ := qn (P := gqIV Q) h6 hQ
    have hp := hp.2 h6
    exact hp.elim
def f_L_withdrawClaim  (x1 : Int32) (v : gV) : Int32 × gV := f_L_withdrawClaim_0 x1 v
def p_L_withdrawClaim  (x1 : Int32) (v : gV) : Prop := p_L_withdrawClaim_0 x1 v
theorem c_L_withdrawClaim {E : gE} {d : Nat}   (hd : 10 ≤ d) (x1 : Int32) (v : gV) (hp : p_L_withdrawClaim x1 v) : CT E m_L_withdrawClaim d 2 12 [.ref (gX E + 0), .int x1, .ref (gX E + 570)] (rS v) (Cq (.inl (some (.int ((f_L_withdrawClaim x1 v).1)))) (f_L_withdrawClaim x1 v).2) := CT.ofH ok_L_withdrawClaim rfl (Nat.le_of_ble_eq_true rfl) (w_L_withdrawClaim_0  hd x1 v hp ⟨rfl, rfl⟩)
def f_L_addOffer_12   (v : gV) : Int32 × gV := ((0 : Int32), v)
def p_L_addOffer_12   (v : gV) : Prop := True
set_option maxHeartbeats 4000000 in
set_option maxRecDepth 100000 in
theorem w_L_addOffer_12 {E : gE} {d : Nat} {Q : gO → gS → Prop}   (hd : 10 ≤ d)  (v : gV) (hp : p_L_addOffer_12    v) (hQ : gqIV Q (f_L_addOffer_12   v)) : gG E m_L_addOffer d Q 0 0 (rS v) 12 [] [] := by
  refine g_goto 23 dL_addOffer_12 (by decide) ?_
  refine g_iconst dL_addOffer_23 (0 : Int32) (by decide) ?_
  exact g_iret rfl dL_addOffer_24 hQ
def f_L_addOffer_10  (s0 : Int32) (s1 : Int32) (v : gV) : Int32 × gV := f_L_addOffer_12   (vL v 570 s1.toNatClampNeg s0.toInt64)
def p_L_addOffer_10  (s0 : Int32) (s1 : Int32) (v : gV) : Prop := (vp_in s1 1) ∧ (p_L_addOffer_12    (vL v 570 s1.toNatClampNeg s0.toInt64))
set_option maxHeartbeats 4000000 in
set_option maxRecDepth 100000 in
theorem w_L_addOffer_10 {E : gE} {d : Nat} {Q : gO → gS → Prop}   (hd : 10 ≤ d) (s0 : Int32) (s1 : Int32) (v : gV) (hp : p_L_addOffer_10   s0 s1 v) (hQ : gqIV Q (f_L_addOffer_10  s0 s1 v)) : gG E m_L_addOffer d Q 0 0 (rS v) 10 [] [.int s0, .int s1, .ref (gX E + 570)] := by
  refine g_i2l dL_addOffer_10 ?_
  obtain ⟨h4, hp⟩ := hp
  refine r_last (by decide : kd 570 = (3, 1)) (show 570 < 572 by decide) h4 dL_addOffer_11 ?_
  exact w_L_addOffer_12  hd     (vL v 570 s1.toNatClampNeg s0.toInt64) hp hQ
def f_L_addOffer_17   (v : gV) : Int32 × gV := ((1 : Int32), v)
def p_L_addOffer_17   (v : gV) : Prop := True
set_option maxHeartbeats 4000000 in
set_option maxRecDepth 100000 in
theorem w_L_addOffer_17 {E : gE} {d : Nat} {Q : gO → gS → Prop}   (hd : 10 ≤ d)  (v : gV) (hp : p_L_addOffer_17    v) (hQ : gqIV Q (f_L_addOffer_17   v)) : gG E m_L_addOffer d Q 0 0 (rS v) 17 [] [] := by
  refine g_iconst dL_addOffer_17 (1 : Int32) (by decide) ?_
  exact g_iret rfl dL_addOffer_18 hQ
def f_L_addOffer_21   (v : gV) : Int32 × gV := ((2 : Int32), v)
def p_L_addOffer_21   (v : gV) : Prop := True
set_option maxHeartbeats 4000000 in
set_option maxRecDepth 100000 in
theorem w_L_addOffer_21 {E : gE} {d : Nat} {Q : gO → gS → Prop}   (hd : 10 ≤ d)  (v : gV) (hp : p_L_addOffer_21    v) (hQ : gqIV Q (f_L_addOffer_21   v)) : gG E m_L_addOffer d Q 0 0 (rS v) 21 [] [] := by
  refine g_iconst dL_addOffer_21 (2 : Int32) (by decide) ?_
  exact g_iret rfl dL_addOffer_22 hQ
def f_L_addOffer_0  (x1 : Int32) (x2 : Int32) (x3 : Int32) (v : gV) : Int32 × gV := Sum.elim (fun (sr2 : Int32) => f_L_addOffer_10  sr2 (0 : Int32) (f_X11_addOffer x1 x2 x3 v).2) (fun (e : String) => if e = "java/lang/IllegalArgumentException" then (f_L_addOffer_17   (f_X11_addOffer x1 x2 x3 v).2) else (if e = "java/lang/IllegalStateException" then (f_L_addOffer_21   (f_X11_addOffer x1 x2 x3 v).2) else ((0, v)))) (f_X11_addOffer x1 x2 x3 v).1
def p_L_addOffer_0  (x1 : Int32) (x2 : Int32) (x3 : Int32) (v : gV) : Prop := (p_X11_addOffer x1 x2 x3 v) ∧ ((∀ (sr2 : Int32), (f_X11_addOffer x1 x2 x3 v).1 = Sum.inl sr2 → (p_L_addOffer_10   sr2 (0 : Int32) (f_X11_addOffer x1 x2 x3 v).2)) ∧ (∀ (e : String), (f_X11_addOffer x1 x2 x3 v).1 = Sum.inr e → (((e = "java/lang/IllegalArgumentException") → (p_L_addOffer_17    (f_X11_addOffer x1 x2 x3 v).2)) ∧ (¬ (e = "java/lang/IllegalArgumentException") → (((e = "java/lang/IllegalStateException") → (p_L_addOffer_21    (f_X11_addOffer x1 x2 x3 v).2)) ∧ (¬ (e = "java/lang/IllegalStateException") → (False)))))))
set_option maxHeartbeats 4000000 in
set_option maxRecDepth 100000 in
theorem w_L_addOffer_0 {E : gE} {d : Nat} {Q : gO → gS → Prop}   (hd : 10 ≤ d) (x1 : Int32) (x2 : Int32) (x3 : Int32) (v : gV) (hp : p_L_addOffer_0   x1 x2 x3 v) (hQ : gqIV Q (f_L_addOffer_0  x1 x2 x3 v)) : gG E m_L_addOffer d Q 4 24 (rS v) 0 [(0, .ref (gX E + 0)), (1, .int x1), (2, .int x2), (3, .int x3), (4, .ref (gX E + 570))] [] := by
  refine g_aload 4 dL_addOffer_0 rfl ?_
  refine g_iconst dL_addOffer_2 (0 : Int32) (by decide) ?_
  refine g_aload_n 0 dL_addOffer_3 rfl ?_
  refine g_iload_n 1 dL_addOffer_4 rfl ?_
  refine g_iload_n 2 dL_addOffer_5 rfl ?_
  refine g_iload_n 3 dL_addOffer_6 rfl ?_
  obtain ⟨h1, hp⟩ := hp
  refine g_callV (rest := [.int ((0 : Int32)), .ref (gX E + 570)]) s_L_48_X11 rfl (c_X11_addOffer (E := E) (d := d - 1)   (by omega) x1 x2 x3 v h1) (by decide : kd 0 = (0, 8)) (show 0 < 572 by decide) rfl rfl (Nat.le_of_ble_eq_true rfl) (by omega) (by decide) (by decide) dL_addOffer_7 (adTI (fun sr2 h3 => ?_)) (axTI (fun e h3 => ?_))
  · have hQ := ql (P := gqIV Q) h3 hQ
    have hp := hp.1 sr2 h3
    refine g_lv (lv' := []) [] rfl ?_
    exact w_L_addOffer_10  hd    sr2 (0 : Int32) (f_X11_addOffer x1 x2 x3 v).2 hp hQ
  · have hQ := qe (P := gqIV Q) h3 hQ
    have hp := hp.2 e h3
    by_cases h5 : e = "java/lang/IllegalArgumentException"
    · subst h5
      have hQ := qp (P := gqIV Q) rfl hQ
      have hp := hp.1 rfl
      refine g_catch2 [] (0, 12, 15, 13) [(0, 12, 19, 15)] rfl (fun z hz => absurd hz List.not_mem_nil) (by decide) (by decide) w_722 w_753 (fun q => ?_)
      refine g_astore [(5, .ref q), (0, .ref (gX E + 0)), (1, .int x1), (2, .int x2), (3, .int x3), (4, .ref (gX E + 570))] dL_addOffer_15 (by decide) rfl ?_
      refine g_lv (lv' := []) [] rfl ?_
      exact w_L_addOffer_17  hd     (f_X11_addOffer x1 x2 x3 v).2 hp hQ
    have hQ := qn (P := gqIV Q) h5 hQ
    have hp := hp.2 h5
    by_cases h6 : e = "java/lang/IllegalStateException"
    · subst h6
      have hQ := qp (P := gqIV Q) rfl hQ
      have hp := hp.1 rfl
      refine g_catch2 [(0, 12, 15, 13)] (0, 12, 19, 15) [] rfl (List.forall_mem_cons.mpr ⟨⟨by decide, "java/lang/IllegalArgumentException", w_722, fun s hK => gnc (by decide +kernel) hK⟩, (fun z hz => absurd hz List.not_mem_nil)⟩) (by decide) (by decide) w_723 w_834 (fun q => ?_)
      refine g_astore [(5, .ref q), (0, .ref (gX E + 0)), (1, .int x1), (2, .int x2), (3, .int x3), (4, .ref (gX E + 570))] dL_addOffer_19 (by decide) rfl ?_
      refine g_lv (lv' := []) [] rfl ?_
      exact w_L_addOffer_21  hd     (f_X11_addOffer x1 x2 x3 v).2 hp hQ
    have hQ := qn (P := gqIV Q) h6 hQ
    have hp := hp.2 h6
    exact hp.elim
def f_L_addOffer  (x1 : Int32) (x2 : Int32) (x3 : Int32) (v : gV) : Int32 × gV := f_L_addOffer_0 x1 x2 x3 v
def p_L_addOffer  (x1 : Int32) (x2 : Int32) (x3 : Int32) (v : gV) : Prop := p_L_addOffer_0 x1 x2 x3 v
theorem c_L_addOffer {E : gE} {d : Nat}   (hd : 10 ≤ d) (x1 : Int32) (x2 : Int32) (x3 : Int32) (v : gV) (hp : p_L_addOffer x1 x2 x3 v) : CT E m_L_addOffer d 4 24 [.ref (gX E + 0), .int x1, .int x2, .int x3, .ref (gX E + 570)] (rS v) (Cq (.inl (some (.int ((f_L_addOffer x1 x2 x3 v).1)))) (f_L_addOffer x1 x2 x3 v).2) := CT.ofH ok_L_addOffer rfl (Nat.le_of_ble_eq_true rfl) (w_L_addOffer_0  hd x1 x2 x3 v hp ⟨rfl, rfl⟩)
def f_L_dropOffer_9   (v : gV) : Int32 × gV := ((0 : Int32), v)
def p_L_dropOffer_9   (v : gV) : Prop := True
set_option maxHeartbeats 4000000 in
set_option maxRecDepth 100000 in
theorem w_L_dropOffer_9 {E : gE} {d : Nat} {Q : gO → gS → Prop}   (hd : 10 ≤ d)  (v : gV) (hp : p_L_dropOffer_9    v) (hQ : gqIV Q (f_L_dropOffer_9   v)) : gG E m_L_dropOffer d Q 0 0 (rS v) 9 [] [] := by
  refine g_goto 15 dL_dropOffer_9 (by decide) ?_
  refine g_iconst dL_dropOffer_15 (0 : Int32) (by decide) ?_
  exact g_iret rfl dL_dropOffer_16 hQ
def f_L_dropOffer_7  (s0 : Int32) (s1 : Int32) (v : gV) : Int32 × gV := f_L_dropOffer_9   (vL v 570 s1.toNatClampNeg s0.toInt64)
def p_L_dropOffer_7  (s0 : Int32) (s1 : Int32) (v : gV) : Prop := (vp_in s1 1) ∧ (p_L_dropOffer_9    (vL v 570 s1.toNatClampNeg s0.toInt64))
set_option maxHeartbeats 4000000 in
set_option maxRecDepth 100000 in
theorem w_L_dropOffer_7 {E : gE} {d : Nat} {Q : gO → gS → Prop}   (hd : 10 ≤ d) (s0 : Int32) (s1 : Int32) (v : gV) (hp : p_L_dropOffer_7   s0 s1 v) (hQ : gqIV Q (f_L_dropOffer_7  s0 s1 v)) : gG E m_L_dropOffer d Q 0 0 (rS v) 7 [] [.int s0, .int s1, .ref (gX E + 570)] := by
  refine g_i2l dL_dropOffer_7 ?_
  obtain ⟨h4, hp⟩ := hp
  refine r_last (by decide : kd 570 = (3, 1)) (show 570 < 572 by decide) h4 dL_dropOffer_8 ?_
  exact w_L_dropOffer_9  hd     (vL v 570 s1.toNatClampNeg s0.toInt64) hp hQ
def f_L_dropOffer_13   (v : gV) : Int32 × gV := ((1 : Int32), v)
def p_L_dropOffer_13   (v : gV) : Prop := True
set_option maxHeartbeats 4000000 in
set_option maxRecDepth 100000 in
theorem w_L_dropOffer_13 {E : gE} {d : Nat} {Q : gO → gS → Prop}   (hd : 10 ≤ d)  (v : gV) (hp : p_L_dropOffer_13    v) (hQ : gqIV Q (f_L_dropOffer_13   v)) : gG E m_L_dropOffer d Q 0 0 (rS v) 13 [] [] := by
  refine g_iconst dL_dropOffer_13 (1 : Int32) (by decide) ?_
  exact g_iret rfl dL_dropOffer_14 hQ
def f_L_dropOffer_0  (x1 : Int32) (v : gV) : Int32 × gV := Sum.elim (fun (sr2 : Int32) => f_L_dropOffer_7  sr2 (0 : Int32) (f_X11_dropOffer x1 v).2) (fun (e : String) => if e = "java/lang/IndexOutOfBoundsException" then (f_L_dropOffer_13   (f_X11_dropOffer x1 v).2) else ((0, v))) (f_X11_dropOffer x1 v).1
def p_L_dropOffer_0  (x1 : Int32) (v : gV) : Prop := (p_X11_dropOffer x1 v) ∧ ((∀ (sr2 : Int32), (f_X11_dropOffer x1 v).1 = Sum.inl sr2 → (p_L_dropOffer_7   sr2 (0 : Int32) (f_X11_dropOffer x1 v).2)) ∧ (∀ (e : String), (f_X11_dropOffer x1 v).1 = Sum.inr e → (((e = "java/lang/IndexOutOfBoundsException") → (p_L_dropOffer_13    (f_X11_dropOffer x1 v).2)) ∧ (¬ (e = "java/lang/IndexOutOfBoundsException") → (False)))))
set_option maxHeartbeats 4000000 in
set_option maxRecDepth 100000 in
theorem w_L_dropOffer_0 {E : gE} {d : Nat} {Q : gO → gS → Prop}   (hd : 10 ≤ d) (x1 : Int32) (v : gV) (hp : p_L_dropOffer_0   x1 v) (hQ : gqIV Q (f_L_dropOffer_0  x1 v)) : gG E m_L_dropOffer d Q 1 6 (rS v) 0 [(0, .ref (gX E + 0)), (1, .int x1), (2, .ref (gX E + 570))] [] := by
  refine g_aload_n 2 dL_dropOffer_0 rfl ?_
  refine g_iconst dL_dropOffer_1 (0 : Int32) (by decide) ?_
  refine g_aload_n 0 dL_dropOffer_2 rfl ?_
  refine g_iload_n 1 dL_dropOffer_3 rfl ?_
  obtain ⟨h1, hp⟩ := hp
  refine g_callV (rest := [.int ((0 : Int32)), .ref (gX E + 570)]) s_L_51_X11 rfl (c_X11_dropOffer (E := E) (d := d - 1)   (by omega) x1 v h1) (by decide : kd 0 = (0, 8)) (show 0 < 572 by decide) rfl rfl (Nat.le_of_ble_eq_true rfl) (by omega) (by decide) (by decide) dL_dropOffer_4 (adTI (fun sr2 h3 => ?_)) (axTI (fun e h3 => ?_))
  · have hQ := ql (P := gqIV Q) h3 hQ
    have hp := hp.1 sr2 h3
    refine g_lv (lv' := []) [] rfl ?_
    exact w_L_dropOffer_7  hd    sr2 (0 : Int32) (f_X11_dropOffer x1 v).2 hp hQ
  · have hQ := qe (P := gqIV Q) h3 hQ
    have hp := hp.2 e h3
    by_cases h5 : e = "java/lang/IndexOutOfBoundsException"
    · subst h5
      have hQ := qp (P := gqIV Q) rfl hQ
      have hp := hp.1 rfl
      refine g_catch2 [] (0, 9, 12, 30) [] rfl (fun z hz => absurd hz List.not_mem_nil) (by decide) (by decide) w_937 w_974 (fun q => ?_)
      refine g_astore_n [(3, .ref q), (0, .ref (gX E + 0)), (1, .int x1), (2, .ref (gX E + 570))] dL_dropOffer_12 rfl (by decide) rfl ?_
      refine g_lv (lv' := []) [] rfl ?_
      exact w_L_dropOffer_13  hd     (f_X11_dropOffer x1 v).2 hp hQ
    have hQ := qn (P := gqIV Q) h5 hQ
    have hp := hp.2 h5
    exact hp.elim
def f_L_dropOffer  (x1 : Int32) (v : gV) : Int32 × gV := f_L_dropOffer_0 x1 v
def p_L_dropOffer  (x1 : Int32) (v : gV) : Prop := p_L_dropOffer_0 x1 v
theorem c_L_dropOffer {E : gE} {d : Nat}   (hd : 10 ≤ d) (x1 : Int32) (v : gV) (hp : p_L_dropOffer x1 v) : CT E m_L_dropOffer d 1 6 [.ref (gX E + 0), .int x1, .ref (gX E + 570)] (rS v) (Cq (.inl (some (.int ((f_L_dropOffer x1 v).1)))) (f_L_dropOffer x1 v).2) := CT.ofH ok_L_dropOffer rfl (Nat.le_of_ble_eq_true rfl) (w_L_dropOffer_0  hd x1 v hp ⟨rfl, rfl⟩)
def f_L_passDays_9   (v : gV) : Int32 × gV := ((0 : Int32), v)
def p_L_passDays_9   (v : gV) : Prop := True
set_option maxHeartbeats 4000000 in
set_option maxRecDepth 100000 in
theorem w_L_passDays_9 {E : gE} {d : Nat} {Q : gO → gS → Prop}   (hd : 10 ≤ d)  (v : gV) (hp : p_L_passDays_9    v) (hQ : gqIV Q (f_L_passDays_9   v)) : gG E m_L_passDays d Q 0 0 (rS v) 9 [] [] := by
  refine g_goto 15 dL_passDays_9 (by decide) ?_
  refine g_iconst dL_passDays_15 (0 : Int32) (by decide) ?_
  exact g_iret rfl dL_passDays_16 hQ
def f_L_passDays_7  (s0 : Int32) (s1 : Int32) (v : gV) : Int32 × gV := f_L_passDays_9   (vL v 570 s1.toNatClampNeg s0.toInt64)
def p_L_passDays_7  (s0 : Int32) (s1 : Int32) (v : gV) : Prop := (vp_in s1 1) ∧ (p_L_passDays_9    (vL v 570 s1.toNatClampNeg s0.toInt64))
set_option maxHeartbeats 4000000 in
set_option maxRecDepth 100000 in
theorem w_L_passDays_7 {E : gE} {d : Nat} {Q : gO → gS → Prop}   (hd : 10 ≤ d) (s0 : Int32) (s1 : Int32) (v : gV) (hp : p_L_passDays_7   s0 s1 v) (hQ : gqIV Q (f_L_passDays_7  s0 s1 v)) : gG E m_L_passDays d Q 0 0 (rS v) 7 [] [.int s0, .int s1, .ref (gX E + 570)] := by
  refine g_i2l dL_passDays_7 ?_
  obtain ⟨h4, hp⟩ := hp
  refine r_last (by decide : kd 570 = (3, 1)) (show 570 < 572 by decide) h4 dL_passDays_8 ?_
  exact w_L_passDays_9  hd     (vL v 570 s1.toNatClampNeg s0.toInt64) hp hQ
def f_L_passDays_13   (v : gV) : Int32 × gV := ((1 : Int32), v)
def p_L_passDays_13   (v : gV) : Prop := True
set_option maxHeartbeats 4000000 in
set_option maxRecDepth 100000 in
theorem w_L_passDays_13 {E : gE} {d : Nat} {Q : gO → gS → Prop}   (hd : 10 ≤ d)  (v : gV) (hp : p_L_passDays_13    v) (hQ : gqIV Q (f_L_passDays_13   v)) : gG E m_L_passDays d Q 0 0 (rS v) 13 [] [] := by
  refine g_iconst dL_passDays_13 (1 : Int32) (by decide) ?_
  exact g_iret rfl dL_passDays_14 hQ
def f_L_passDays_0  (x1 : Int32) (v : gV) : Int32 × gV := Sum.elim (fun (sr2 : Int32) => f_L_passDays_7  sr2 (0 : Int32) (f_X11_passDays x1 v).2) (fun (e : String) => if e = "java/lang/IllegalArgumentException" then (f_L_passDays_13   (f_X11_passDays x1 v).2) else ((0, v))) (f_X11_passDays x1 v).1
def p_L_passDays_0  (x1 : Int32) (v : gV) : Prop := (p_X11_passDays x1 v) ∧ ((∀ (sr2 : Int32), (f_X11_passDays x1 v).1 = Sum.inl sr2 → (p_L_passDays_7   sr2 (0 : Int32) (f_X11_passDays x1 v).2)) ∧ (∀ (e : String), (f_X11_passDays x1 v).1 = Sum.inr e → (((e = "java/lang/IllegalArgumentException") → (p_L_passDays_13    (f_X11_passDays x1 v).2)) ∧ (¬ (e = "java/lang/IllegalArgumentException") → (False)))))
set_option maxHeartbeats 4000000 in
set_option maxRecDepth 100000 in
theorem w_L_passDays_0 {E : gE} {d : Nat} {Q : gO → gS → Prop}   (hd : 10 ≤ d) (x1 : Int32) (v : gV) (hp : p_L_passDays_0   x1 v) (hQ : gqIV Q (f_L_passDays_0  x1 v)) : gG E m_L_passDays d Q 1 6 (rS v) 0 [(0, .ref (gX E + 0)), (1, .int x1), (2, .ref (gX E + 570))] [] := by
  refine g_aload_n 2 dL_passDays_0 rfl ?_
  refine g_iconst dL_passDays_1 (0 : Int32) (by decide) ?_
  refine g_aload_n 0 dL_passDays_2 rfl ?_
  refine g_iload_n 1 dL_passDays_3 rfl ?_
  obtain ⟨h1, hp⟩ := hp
  refine g_callV (rest := [.int ((0 : Int32)), .ref (gX E + 570)]) s_L_54_X11 rfl (c_X11_passDays (E := E) (d := d - 1)   (by omega) x1 v h1) (by decide : kd 0 = (0, 8)) (show 0 < 572 by decide) rfl rfl (Nat.le_of_ble_eq_true rfl) (by omega) (by decide) (by decide) dL_passDays_4 (adTI (fun sr2 h3 => ?_)) (axTI (fun e h3 => ?_))
  · have hQ := ql (P := gqIV Q) h3 hQ
    have hp := hp.1 sr2 h3
    refine g_lv (lv' := []) [] rfl ?_
    exact w_L_passDays_7  hd    sr2 (0 : Int32) (f_X11_passDays x1 v).2 hp hQ
  · have hQ := qe (P := gqIV Q) h3 hQ
    have hp := hp.2 e h3
    by_cases h5 : e = "java/lang/IllegalArgumentException"
    · subst h5
      have hQ := qp (P := gqIV Q) rfl hQ
      have hp := hp.1 rfl
      refine g_catch2 [] (0, 9, 12, 13) [] rfl (fun z hz => absurd hz List.not_mem_nil) (by decide) (by decide) w_722 w_753 (fun q => ?_)
      refine g_astore_n [(3, .ref q), (0, .ref (gX E + 0)), (1, .int x1), (2, .ref (gX E + 570))] dL_passDays_12 rfl (by decide) rfl ?_
      refine g_lv (lv' := []) [] rfl ?_
      exact w_L_passDays_13  hd     (f_X11_passDays x1 v).2 hp hQ
    have hQ := qn (P := gqIV Q) h5 hQ
    have hp := hp.2 h5
    exact hp.elim
def f_L_passDays  (x1 : Int32) (v : gV) : Int32 × gV := f_L_passDays_0 x1 v
def p_L_passDays  (x1 : Int32) (v : gV) : Prop := p_L_passDays_0 x1 v
theorem c_L_passDays {E : gE} {d : Nat}   (hd : 10 ≤ d) (x1 : Int32) (v : gV) (hp : p_L_passDays x1 v) : CT E m_L_passDays d 1 6 [.ref (gX E + 0), .int x1, .ref (gX E + 570)] (rS v) (Cq (.inl (some (.int ((f_L_passDays x1 v).1)))) (f_L_passDays x1 v).2) := CT.ofH ok_L_passDays rfl (Nat.le_of_ble_eq_true rfl) (w_L_passDays_0  hd x1 v hp ⟨rfl, rfl⟩)
def f_L_projected_9   (v : gV) : Int32 × gV := ((0 : Int32), v)
def p_L_projected_9   (v : gV) : Prop := True
set_option maxHeartbeats 4000000 in
set_option maxRecDepth 100000 in
theorem w_L_projected_9 {E : gE} {d : Nat} {Q : gO → gS → Prop}   (hd : 9 ≤ d)  (v : gV) (hp : p_L_projected_9    v) (hQ : gqIV Q (f_L_projected_9   v)) : gG E m_L_projected d Q 0 0 (rS v) 9 [] [] := by
  refine g_goto 15 dL_projected_9 (by decide) ?_
  refine g_iconst dL_projected_15 (0 : Int32) (by decide) ?_
  exact g_iret rfl dL_projected_16 hQ
def f_L_projected_7  (s0 : Int32) (s1 : Int32) (v : gV) : Int32 × gV := f_L_projected_9   (vL v 570 s1.toNatClampNeg s0.toInt64)
def p_L_projected_7  (s0 : Int32) (s1 : Int32) (v : gV) : Prop := (vp_in s1 1) ∧ (p_L_projected_9    (vL v 570 s1.toNatClampNeg s0.toInt64))
set_option maxHeartbeats 4000000 in
set_option maxRecDepth 100000 in
theorem w_L_projected_7 {E : gE} {d : Nat} {Q : gO → gS → Prop}   (hd : 9 ≤ d) (s0 : Int32) (s1 : Int32) (v : gV) (hp : p_L_projected_7   s0 s1 v) (hQ : gqIV Q (f_L_projected_7  s0 s1 v)) : gG E m_L_projected d Q 0 0 (rS v) 7 [] [.int s0, .int s1, .ref (gX E + 570)] := by
  refine g_i2l dL_projected_7 ?_
  obtain ⟨h4, hp⟩ := hp
  refine r_last (by decide : kd 570 = (3, 1)) (show 570 < 572 by decide) h4 dL_projected_8 ?_
  exact w_L_projected_9  hd     (vL v 570 s1.toNatClampNeg s0.toInt64) hp hQ
def f_L_projected_13   (v : gV) : Int32 × gV := ((1 : Int32), v)
def p_L_projected_13   (v : gV) : Prop := True
set_option maxHeartbeats 4000000 in
set_option maxRecDepth 100000 in
theorem w_L_projected_13 {E : gE} {d : Nat} {Q : gO → gS → Prop}   (hd : 9 ≤ d)  (v : gV) (hp : p_L_projected_13    v) (hQ : gqIV Q (f_L_projected_13   v)) : gG E m_L_projected d Q 0 0 (rS v) 13 [] [] := by
  refine g_iconst dL_projected_13 (1 : Int32) (by decide) ?_
  exact g_iret rfl dL_projected_14 hQ
def f_L_projected_0  (x1 : Int32) (v : gV) : Int32 × gV := Sum.elim (fun (sr2 : Int32) => f_L_projected_7  sr2 (0 : Int32) v) (fun (e : String) => if e = "java/lang/IllegalArgumentException" then (f_L_projected_13   v) else ((0, v))) (f_X11_projected x1 v)
def p_L_projected_0  (x1 : Int32) (v : gV) : Prop := (p_X11_projected x1 v) ∧ ((∀ (sr2 : Int32), (f_X11_projected x1 v) = Sum.inl sr2 → (p_L_projected_7   sr2 (0 : Int32) v)) ∧ (∀ (e : String), (f_X11_projected x1 v) = Sum.inr e → (((e = "java/lang/IllegalArgumentException") → (p_L_projected_13    v)) ∧ (¬ (e = "java/lang/IllegalArgumentException") → (False)))))
set_option maxHeartbeats 4000000 in
set_option maxRecDepth 100000 in
theorem w_L_projected_0 {E : gE} {d : Nat} {Q : gO → gS → Prop}   (hd : 9 ≤ d) (x1 : Int32) (v : gV) (hp : p_L_projected_0   x1 v) (hQ : gqIV Q (f_L_projected_0  x1 v)) : gG E m_L_projected d Q 1 6 (rS v) 0 [(0, .ref (gX E + 0)), (1, .int x1), (2, .ref (gX E + 570))] [] := by
  refine g_aload_n 2 dL_projected_0 rfl ?_
  refine g_iconst dL_projected_1 (0 : Int32) (by decide) ?_
  refine g_aload_n 0 dL_projected_2 rfl ?_
  refine g_iload_n 1 dL_projected_3 rfl ?_
  obtain ⟨h1, hp⟩ := hp
  refine g_callV (rest := [.int ((0 : Int32)), .ref (gX E + 570)]) s_L_126_X11 rfl (c_X11_projected (E := E) (d := d - 1)   (by omega) x1 v h1) (by decide : kd 0 = (0, 8)) (show 0 < 572 by decide) rfl rfl (Nat.le_of_ble_eq_true rfl) (by omega) (by decide) (by decide) dL_projected_4 (adTI (fun sr2 h3 => ?_)) (axTI (fun e h3 => ?_))
  · have hQ := ql (P := gqIV Q) h3 hQ
    have hp := hp.1 sr2 h3
    refine g_lv (lv' := []) [] rfl ?_
    exact w_L_projected_7  hd    sr2 (0 : Int32) v hp hQ
  · have hQ := qe (P := gqIV Q) h3 hQ
    have hp := hp.2 e h3
    by_cases h5 : e = "java/lang/IllegalArgumentException"
    · subst h5
      have hQ := qp (P := gqIV Q) rfl hQ
      have hp := hp.1 rfl
      refine g_catch2 [] (0, 9, 12, 13) [] rfl (fun z hz => absurd hz List.not_mem_nil) (by decide) (by decide) w_722 w_753 (fun q => ?_)
      refine g_astore_n [(3, .ref q), (0, .ref (gX E + 0)), (1, .int x1), (2, .ref (gX E + 570))] dL_projected_12 rfl (by decide) rfl ?_
      refine g_lv (lv' := []) [] rfl ?_
      exact w_L_projected_13  hd     v hp hQ
    have hQ := qn (P := gqIV Q) h5 hQ
    have hp := hp.2 h5
    exact hp.elim
def f_L_projected  (x1 : Int32) (v : gV) : Int32 × gV := f_L_projected_0 x1 v
def p_L_projected  (x1 : Int32) (v : gV) : Prop := p_L_projected_0 x1 v
theorem c_L_projected {E : gE} {d : Nat}   (hd : 9 ≤ d) (x1 : Int32) (v : gV) (hp : p_L_projected x1 v) : CT E m_L_projected d 1 6 [.ref (gX E + 0), .int x1, .ref (gX E + 570)] (rS v) (Cq (.inl (some (.int ((f_L_projected x1 v).1)))) (f_L_projected x1 v).2) := CT.ofH ok_L_projected rfl (Nat.le_of_ble_eq_true rfl) (w_L_projected_0  hd x1 v hp ⟨rfl, rfl⟩)
def f_L_undo_8   (v : gV) : Int32 × gV := ((0 : Int32), v)
def p_L_undo_8   (v : gV) : Prop := True
set_option maxHeartbeats 4000000 in
set_option maxRecDepth 100000 in
theorem w_L_undo_8 {E : gE} {d : Nat} {Q : gO → gS → Prop}   (hd : 9 ≤ d)  (v : gV) (hp : p_L_undo_8    v) (hQ : gqIV Q (f_L_undo_8   v)) : gG E m_L_undo d Q 0 0 (rS v) 8 [] [] := by
  refine g_goto 14 dL_undo_8 (by decide) ?_
  refine g_iconst dL_undo_14 (0 : Int32) (by decide) ?_
  exact g_iret rfl dL_undo_15 hQ
def f_L_undo_6  (s0 : Int32) (s1 : Int32) (v : gV) : Int32 × gV := f_L_undo_8   (vL v 570 s1.toNatClampNeg s0.toInt64)
def p_L_undo_6  (s0 : Int32) (s1 : Int32) (v : gV) : Prop := (vp_in s1 1) ∧ (p_L_undo_8    (vL v 570 s1.toNatClampNeg s0.toInt64))
set_option maxHeartbeats 4000000 in
set_option maxRecDepth 100000 in
theorem w_L_undo_6 {E : gE} {d : Nat} {Q : gO → gS → Prop}   (hd : 9 ≤ d) (s0 : Int32) (s1 : Int32) (v : gV) (hp : p_L_undo_6   s0 s1 v) (hQ : gqIV Q (f_L_undo_6  s0 s1 v)) : gG E m_L_undo d Q 0 0 (rS v) 6 [] [.int s0, .int s1, .ref (gX E + 570)] := by
  refine g_i2l dL_undo_6 ?_
  obtain ⟨h4, hp⟩ := hp
  refine r_last (by decide : kd 570 = (3, 1)) (show 570 < 572 by decide) h4 dL_undo_7 ?_
  exact w_L_undo_8  hd     (vL v 570 s1.toNatClampNeg s0.toInt64) hp hQ
def f_L_undo_12   (v : gV) : Int32 × gV := ((1 : Int32), v)
def p_L_undo_12   (v : gV) : Prop := True
set_option maxHeartbeats 4000000 in
set_option maxRecDepth 100000 in
theorem w_L_undo_12 {E : gE} {d : Nat} {Q : gO → gS → Prop}   (hd : 9 ≤ d)  (v : gV) (hp : p_L_undo_12    v) (hQ : gqIV Q (f_L_undo_12   v)) : gG E m_L_undo d Q 0 0 (rS v) 12 [] [] := by
  refine g_iconst dL_undo_12 (1 : Int32) (by decide) ?_
  exact g_iret rfl dL_undo_13 hQ
def f_L_undo_0   (v : gV) : Int32 × gV := Sum.elim (fun (sr2 : Int32) => f_L_undo_6  sr2 (0 : Int32) (f_X11_undo  v).2) (fun (e : String) => if e = "java/lang/IllegalStateException" then (f_L_undo_12   (f_X11_undo  v).2) else ((0, v))) (f_X11_undo  v).1
def p_L_undo_0   (v : gV) : Prop := (p_X11_undo  v) ∧ ((∀ (sr2 : Int32), (f_X11_undo  v).1 = Sum.inl sr2 → (p_L_undo_6   sr2 (0 : Int32) (f_X11_undo  v).2)) ∧ (∀ (e : String), (f_X11_undo  v).1 = Sum.inr e → (((e = "java/lang/IllegalStateException") → (p_L_undo_12    (f_X11_undo  v).2)) ∧ (¬ (e = "java/lang/IllegalStateException") → (False)))))
set_option maxHeartbeats 4000000 in
set_option maxRecDepth 100000 in
theorem w_L_undo_0 {E : gE} {d : Nat} {Q : gO → gS → Prop}   (hd : 9 ≤ d)  (v : gV) (hp : p_L_undo_0    v) (hQ : gqIV Q (f_L_undo_0   v)) : gG E m_L_undo d Q 1 6 (rS v) 0 [(0, .ref (gX E + 0)), (1, .ref (gX E + 570))] [] := by
  refine g_aload_n 1 dL_undo_0 rfl ?_
  refine g_iconst dL_undo_1 (0 : Int32) (by decide) ?_
  refine g_aload_n 0 dL_undo_2 rfl ?_
  obtain ⟨h1, hp⟩ := hp
  refine g_callV (rest := [.int ((0 : Int32)), .ref (gX E + 570)]) s_L_177_X11 rfl (c_X11_undo (E := E) (d := d - 1)   (by omega)  v h1) (by decide : kd 0 = (0, 8)) (show 0 < 572 by decide) rfl rfl (Nat.le_of_ble_eq_true rfl) (by omega) (by decide) (by decide) dL_undo_3 (adTI (fun sr2 h3 => ?_)) (axTI (fun e h3 => ?_))
  · have hQ := ql (P := gqIV Q) h3 hQ
    have hp := hp.1 sr2 h3
    refine g_lv (lv' := []) [] rfl ?_
    exact w_L_undo_6  hd    sr2 (0 : Int32) (f_X11_undo  v).2 hp hQ
  · have hQ := qe (P := gqIV Q) h3 hQ
    have hp := hp.2 e h3
    by_cases h5 : e = "java/lang/IllegalStateException"
    · subst h5
      have hQ := qp (P := gqIV Q) rfl hQ
      have hp := hp.1 rfl
      refine g_catch2 [] (0, 8, 11, 15) [] rfl (fun z hz => absurd hz List.not_mem_nil) (by decide) (by decide) w_723 w_834 (fun q => ?_)
      refine g_astore_n [(2, .ref q), (0, .ref (gX E + 0)), (1, .ref (gX E + 570))] dL_undo_11 rfl (by decide) rfl ?_
      refine g_lv (lv' := []) [] rfl ?_
      exact w_L_undo_12  hd     (f_X11_undo  v).2 hp hQ
    have hQ := qn (P := gqIV Q) h5 hQ
    have hp := hp.2 h5
    exact hp.elim
def f_L_undo   (v : gV) : Int32 × gV := f_L_undo_0  v
def p_L_undo   (v : gV) : Prop := p_L_undo_0  v
theorem c_L_undo {E : gE} {d : Nat}   (hd : 9 ≤ d)  (v : gV) (hp : p_L_undo  v) : CT E m_L_undo d 1 6 [.ref (gX E + 0), .ref (gX E + 570)] (rS v) (Cq (.inl (some (.int ((f_L_undo  v).1)))) (f_L_undo  v).2) := CT.ofH ok_L_undo rfl (Nat.le_of_ble_eq_true rfl) (w_L_undo_0  hd  v hp ⟨rfl, rfl⟩)
def f_L_restore_8   (v : gV) : Int32 × gV := ((0 : Int32), v)
def p_L_restore_8   (v : gV) : Prop := True
set_option maxHeartbeats 4000000 in
set_option maxRecDepth 100000 in
theorem w_L_restore_8 {E : gE} {d : Nat} {Q : gO → gS → Prop}   (hd : 8 ≤ d)  (v : gV) (hp : p_L_restore_8    v) (hQ : gqIV Q (f_L_restore_8   v)) : gG E m_L_restore d Q 0 0 (rS v) 8 [] [] := by
  refine g_goto 14 dL_restore_8 (by decide) ?_
  refine g_iconst dL_restore_14 (0 : Int32) (by decide) ?_
  exact g_iret rfl dL_restore_15 hQ
def f_L_restore_6  (s0 : Int32) (s1 : Int32) (v : gV) : Int32 × gV := f_L_restore_8   (vL v 570 s1.toNatClampNeg s0.toInt64)
def p_L_restore_6  (s0 : Int32) (s1 : Int32) (v : gV) : Prop := (vp_in s1 1) ∧ (p_L_restore_8    (vL v 570 s1.toNatClampNeg s0.toInt64))
set_option maxHeartbeats 4000000 in
set_option maxRecDepth 100000 in
theorem w_L_restore_6 {E : gE} {d : Nat} {Q : gO → gS → Prop}   (hd : 8 ≤ d) (s0 : Int32) (s1 : Int32) (v : gV) (hp : p_L_restore_6   s0 s1 v) (hQ : gqIV Q (f_L_restore_6  s0 s1 v)) : gG E m_L_restore d Q 0 0 (rS v) 6 [] [.int s0, .int s1, .ref (gX E + 570)] := by
  refine g_i2l dL_restore_6 ?_
  obtain ⟨h4, hp⟩ := hp
  refine r_last (by decide : kd 570 = (3, 1)) (show 570 < 572 by decide) h4 dL_restore_7 ?_
  exact w_L_restore_8  hd     (vL v 570 s1.toNatClampNeg s0.toInt64) hp hQ
def f_L_restore_12   (v : gV) : Int32 × gV := ((1 : Int32), v)
def p_L_restore_12   (v : gV) : Prop := True
set_option maxHeartbeats 4000000 in
set_option maxRecDepth 100000 in
theorem w_L_restore_12 {E : gE} {d : Nat} {Q : gO → gS → Prop}   (hd : 8 ≤ d)  (v : gV) (hp : p_L_restore_12    v) (hQ : gqIV Q (f_L_restore_12   v)) : gG E m_L_restore d Q 0 0 (rS v) 12 [] [] := by
  refine g_iconst dL_restore_12 (1 : Int32) (by decide) ?_
  exact g_iret rfl dL_restore_13 hQ
def f_L_restore_0   (v : gV) : Int32 × gV := Sum.elim (fun (sr2 : Int32) => f_L_restore_6  sr2 (0 : Int32) (f_X11_restore  v).2) (fun (e : String) => if e = "java/lang/IllegalStateException" then (f_L_restore_12   (f_X11_restore  v).2) else ((0, v))) (f_X11_restore  v).1
def p_L_restore_0   (v : gV) : Prop := (p_X11_restore  v) ∧ ((∀ (sr2 : Int32), (f_X11_restore  v).1 = Sum.inl sr2 → (p_L_restore_6   sr2 (0 : Int32) (f_X11_restore  v).2)) ∧ (∀ (e : String), (f_X11_restore  v).1 = Sum.inr e → (((e = "java/lang/IllegalStateException") → (p_L_restore_12    (f_X11_restore  v).2)) ∧ (¬ (e = "java/lang/IllegalStateException") → (False)))))
set_option maxHeartbeats 4000000 in
set_option maxRecDepth 100000 in
theorem w_L_restore_0 {E : gE} {d : Nat} {Q : gO → gS → Prop}   (hd : 8 ≤ d)  (v : gV) (hp : p_L_restore_0    v) (hQ : gqIV Q (f_L_restore_0   v)) : gG E m_L_restore d Q 1 6 (rS v) 0 [(0, .ref (gX E + 0)), (1, .ref (gX E + 570))] [] := by
  refine g_aload_n 1 dL_restore_0 rfl ?_
  refine g_iconst dL_restore_1 (0 : Int32) (by decide) ?_
  refine g_aload_n 0 dL_restore_2 rfl ?_
  obtain ⟨h1, hp⟩ := hp
  refine g_callV (rest := [.int ((0 : Int32)), .ref (gX E + 570)]) s_L_180_X11 rfl (c_X11_restore (E := E) (d := d - 1)   (by omega)  v h1) (by decide : kd 0 = (0, 8)) (show 0 < 572 by decide) rfl rfl (Nat.le_of_ble_eq_true rfl) (by omega) (by decide) (by decide) dL_restore_3 (adTI (fun sr2 h3 => ?_)) (axTI (fun e h3 => ?_))
  · have hQ := ql (P := gqIV Q) h3 hQ
    have hp := hp.1 sr2 h3
    refine g_lv (lv' := []) [] rfl ?_
    exact w_L_restore_6  hd    sr2 (0 : Int32) (f_X11_restore  v).2 hp hQ
  · have hQ := qe (P := gqIV Q) h3 hQ
    have hp := hp.2 e h3
    by_cases h5 : e = "java/lang/IllegalStateException"
    · subst h5
      have hQ := qp (P := gqIV Q) rfl hQ
      have hp := hp.1 rfl
      refine g_catch2 [] (0, 8, 11, 15) [] rfl (fun z hz => absurd hz List.not_mem_nil) (by decide) (by decide) w_723 w_834 (fun q => ?_)
      refine g_astore_n [(2, .ref q), (0, .ref (gX E + 0)), (1, .ref (gX E + 570))] dL_restore_11 rfl (by decide) rfl ?_
      refine g_lv (lv' := []) [] rfl ?_
      exact w_L_restore_12  hd     (f_X11_restore  v).2 hp hQ
    have hQ := qn (P := gqIV Q) h5 hQ
    have hp := hp.2 h5
    exact hp.elim
def f_L_restore   (v : gV) : Int32 × gV := f_L_restore_0  v
def p_L_restore   (v : gV) : Prop := p_L_restore_0  v
theorem c_L_restore {E : gE} {d : Nat}   (hd : 8 ≤ d)  (v : gV) (hp : p_L_restore  v) : CT E m_L_restore d 1 6 [.ref (gX E + 0), .ref (gX E + 570)] (rS v) (Cq (.inl (some (.int ((f_L_restore  v).1)))) (f_L_restore  v).2) := CT.ofH ok_L_restore rfl (Nat.le_of_ble_eq_true rfl) (w_L_restore_0  hd  v hp ⟨rfl, rfl⟩)
def f_X9_projectBackwards_0 (b : Nat) (x1 : Int32) (x2 : Int32) (v : gV) : Int32 := (f_X9_valueAt b x1 (5 : Int32) x2 v).toInt32
def p_X9_projectBackwards_0 (b : Nat) (x1 : Int32) (x2 : Int32) (v : gV) : Prop := (p_X9_valueAt b x1 (5 : Int32) x2 v) ∧ (True)
set_option maxHeartbeats 4000000 in
set_option maxRecDepth 100000 in
theorem w_X9_projectBackwards_0 {E : gE} {d : Nat} {Q : gO → gS → Prop} (b : Nat) (hb : isBk b) (hd : 12 ≤ d) (x1 : Int32) (x2 : Int32) (v : gV) (hp : p_X9_projectBackwards_0 b   x1 x2 v) (hQ : gqI Q v (f_X9_projectBackwards_0 b  x1 x2 v)) : gG E m_X9_projectBackwards d Q 0 0 (rS v) 0 [(0, .ref (gX E + (b + 37))), (1, .int x1), (2, .int x2)] [] := by
  refine g_aload_n 0 dX9_projectBackwards_0 rfl ?_
  refine g_iload_n 1 dX9_projectBackwards_1 rfl ?_
  refine g_iconst dX9_projectBackwards_2 (5 : Int32) (by decide) ?_
  refine g_iload_n 2 dX9_projectBackwards_3 rfl ?_
  obtain ⟨h1, hp⟩ := hp
  refine g_callS (rest := []) s_X9_28 rfl (c_X9_valueAt (E := E) (d := d - 1) b hb (by omega) x1 (5 : Int32) x2 v h1) rfl rfl (Nat.le_of_ble_eq_true rfl) (by omega) (by decide) (by decide) dX9_projectBackwards_4 (adV ?_) axN
  refine g_l2i dX9_projectBackwards_7 ?_
  exact g_iret rfl dX9_projectBackwards_8 hQ
def f_X9_projectBackwards (b : Nat) (x1 : Int32) (x2 : Int32) (v : gV) : Int32 := f_X9_projectBackwards_0 b x1 x2 v
def p_X9_projectBackwards (b : Nat) (x1 : Int32) (x2 : Int32) (v : gV) : Prop := p_X9_projectBackwards_0 b x1 x2 v
theorem c_X9_projectBackwards {E : gE} {d : Nat} (b : Nat) (hb : isBk b) (hd : 12 ≤ d) (x1 : Int32) (x2 : Int32) (v : gV) (hp : p_X9_projectBackwards b x1 x2 v) : CT E m_X9_projectBackwards d 0 0 [.ref (gX E + (b + 37)), .int x1, .int x2] (rS v) (Cq (.inl (some (.int (f_X9_projectBackwards b x1 x2 v)))) v) := CT.of ok_X9_projectBackwards rfl (Nat.le_of_ble_eq_true rfl) (w_X9_projectBackwards_0 b hb hd x1 x2 v hp ⟨rfl, rfl⟩)
def f_X11_projectedByRecursion_21  (x2 : Int32) (s0 : Int32) (v : gV) : Int32 ⊕ String := Sum.inl (f_X9_projectBackwards 1 s0 x2 v)
def p_X11_projectedByRecursion_21  (x2 : Int32) (s0 : Int32) (v : gV) : Prop := (p_X9_projectBackwards 1 s0 x2 v) ∧ (True)
set_option maxHeartbeats 4000000 in
set_option maxRecDepth 100000 in
theorem w_X11_projectedByRecursion_21 {E : gE} {d : Nat} {Q : gO → gS → Prop}   (hd : 13 ≤ d) (x2 : Int32) (s0 : Int32) (v : gV) (hp : p_X11_projectedByRecursion_21   x2 s0 v) (hQ : gqTI Q v (f_X11_projectedByRecursion_21  x2 s0 v)) : gG E m_X11_projectedByRecursion d Q 0 0 (rS v) 21 [(2, .int x2)] [.int s0, .ref (gX E + (1 + 37))] := by
  refine g_iload_n 0 dX11_projectedByRecursion_21 rfl ?_
  obtain ⟨h5, hp⟩ := hp
  refine g_callV (rest := []) s_X11_230_X9 rfl (c_X9_projectBackwards (E := E) (d := d - 1) 1 isBk_1 (by omega) s0 x2 v h5) (kb_37 isBk_1) (lt_b isBk_1 (by decide)) rfl rfl (Nat.le_of_ble_eq_true rfl) (by omega) (by decide) (by decide) dX11_projectedByRecursion_22 (adV ?_) axN
  exact g_iret rfl dX11_projectedByRecursion_25 hQ
def f_X11_projectedByRecursion_0  (x1 : Int32) (v : gV) : Int32 ⊕ String := Sum.elim (fun (sr3 : Int32) => f_X11_projectedByRecursion_21  (f_X1_latestPeriod 1 v) sr3 v) (fun (e : String) => Sum.inr e) (f_X11_checkedNumber x1 (0 : Int32) (f_X1_latestPeriod 1 v) v)
def p_X11_projectedByRecursion_0  (x1 : Int32) (v : gV) : Prop := (p_X1_latestPeriod 1 v) ∧ ((p_X11_checkedNumber x1 (0 : Int32) (f_X1_latestPeriod 1 v) v) ∧ (∀ (sr3 : Int32), (f_X11_checkedNumber x1 (0 : Int32) (f_X1_latestPeriod 1 v) v) = Sum.inl sr3 → (p_X11_projectedByRecursion_21   (f_X1_latestPeriod 1 v) sr3 v)))
set_option maxHeartbeats 4000000 in
set_option maxRecDepth 100000 in
theorem w_X11_projectedByRecursion_0 {E : gE} {d : Nat} {Q : gO → gS → Prop}   (hd : 13 ≤ d) (x1 : Int32) (v : gV) (hp : p_X11_projectedByRecursion_0   x1 v) (hQ : gqTI Q v (f_X11_projectedByRecursion_0  x1 v)) : gG E m_X11_projectedByRecursion d Q 1 6 (rS v) 0 [(0, .ref (gX E + 0)), (1, .int x1)] [] := by
  refine g_aload_n 0 dX11_projectedByRecursion_0 rfl ?_
  refine r_get (.ref (gX E + 1)) f_X11_10_X11 rfl (by decide : kd 0 = (0, 8)) (show 0 < 572 by decide) dX11_projectedByRecursion_1 (fun _ => rfl) ?_
  obtain ⟨h1, hp⟩ := hp
  refine g_callV (rest := []) s_X11_223_X1 rfl (c_X1_latestPeriod (E := E) (d := d - 1) 1 isBk_1 (by omega)  v h1) (kbz isBk_1) (lt_b0 isBk_1) rfl rfl (Nat.le_of_ble_eq_true rfl) (by omega) (by decide) (by decide) dX11_projectedByRecursion_4 (adV ?_) axN
  refine g_istore_n [(2, .int ((f_X1_latestPeriod 1 v))), (0, .ref (gX E + 0)), (1, .int x1)] dX11_projectedByRecursion_7 rfl (by decide) rfl ?_
  refine g_aload_n 1 dX11_projectedByRecursion_8 rfl ?_
  refine r_get (.ref (gX E + 1)) f_X11_10_X11 rfl (by decide : kd 0 = (0, 8)) (show 0 < 572 by decide) dX11_projectedByRecursion_9 (fun _ => rfl) ?_
  refine r_get (.ref (gX E + (1 + 37))) f_X11_214_X1 rfl (kbz isBk_1) (lt_b0 isBk_1) dX11_projectedByRecursion_12 (fun _ => rfl) ?_
  refine g_iload_n 2 dX11_projectedByRecursion_15 rfl ?_
  refine g_iconst dX11_projectedByRecursion_16 (0 : Int32) (by decide) ?_
  refine g_iload_n 0 dX11_projectedByRecursion_17 rfl ?_
  obtain ⟨h2, hp⟩ := hp
  refine g_callS (rest := [.ref (gX E + (1 + 37))]) s_X11_190 rfl (c_X11_checkedNumber (E := E) (d := d - 1)   (by omega) x1 (0 : Int32) (f_X1_latestPeriod 1 v) v h2) rfl rfl (Nat.le_of_ble_eq_true rfl) (by omega) (by decide) (by decide) dX11_projectedByRecursion_18 (adTI (fun sr3 h4 => ?_)) (axTI (fun e h4 => g_outs rfl rfl (qe (P := gqTI Q v) h4 hQ)))
  have hQ := ql (P := gqTI Q v) h4 hQ
  have hp := hp sr3 h4
  refine g_lv (lv' := [(2, .int ((f_X1_latestPeriod 1 v)))]) [0] rfl ?_
  exact w_X11_projectedByRecursion_21  hd    (f_X1_latestPeriod 1 v) sr3 v hp hQ
def f_X11_projectedByRecursion  (x1 : Int32) (v : gV) : Int32 ⊕ String := f_X11_projectedByRecursion_0 x1 v
def p_X11_projectedByRecursion  (x1 : Int32) (v : gV) : Prop := p_X11_projectedByRecursion_0 x1 v
theorem c_X11_projectedByRecursion {E : gE} {d : Nat}   (hd : 13 ≤ d) (x1 : Int32) (v : gV) (hp : p_X11_projectedByRecursion x1 v) : CT E m_X11_projectedByRecursion d 1 6 [.ref (gX E + 0), .int x1] (rS v) (Cq (gOi (f_X11_projectedByRecursion x1 v)) v) := CT.of ok_X11_projectedByRecursion rfl (Nat.le_of_ble_eq_true rfl) (w_X11_projectedByRecursion_0  hd x1 v hp ⟨rfl, rfl⟩)
def f_L_projectedByRecursion_9   (v : gV) : Int32 × gV := ((0 : Int32), v)
def p_L_projectedByRecursion_9   (v : gV) : Prop := True
set_option maxHeartbeats 4000000 in
set_option maxRecDepth 100000 in
theorem w_L_projectedByRecursion_9 {E : gE} {d : Nat} {Q : gO → gS → Prop}   (hd : 14 ≤ d)  (v : gV) (hp : p_L_projectedByRecursion_9    v) (hQ : gqIV Q (f_L_projectedByRecursion_9   v)) : gG E m_L_projectedByRecursion d Q 0 0 (rS v) 9 [] [] := by
  refine g_goto 15 dL_projectedByRecursion_9 (by decide) ?_
  refine g_iconst dL_projectedByRecursion_15 (0 : Int32) (by decide) ?_
  exact g_iret rfl dL_projectedByRecursion_16 hQ
def f_L_projectedByRecursion_7  (s0 : Int32) (s1 : Int32) (v : gV) : Int32 × gV := f_L_projectedByRecursion_9   (vL v 570 s1.toNatClampNeg s0.toInt64)
def p_L_projectedByRecursion_7  (s0 : Int32) (s1 : Int32) (v : gV) : Prop := (vp_in s1 1) ∧ (p_L_projectedByRecursion_9    (vL v 570 s1.toNatClampNeg s0.toInt64))
set_option maxHeartbeats 4000000 in
set_option maxRecDepth 100000 in
theorem w_L_projectedByRecursion_7 {E : gE} {d : Nat} {Q : gO → gS → Prop}   (hd : 14 ≤ d) (s0 : Int32) (s1 : Int32) (v : gV) (hp : p_L_projectedByRecursion_7   s0 s1 v) (hQ : gqIV Q (f_L_projectedByRecursion_7  s0 s1 v)) : gG E m_L_projectedByRecursion d Q 0 0 (rS v) 7 [] [.int s0, .int s1, .ref (gX E + 570)] := by
  refine g_i2l dL_projectedByRecursion_7 ?_
  obtain ⟨h4, hp⟩ := hp
  refine r_last (by decide : kd 570 = (3, 1)) (show 570 < 572 by decide) h4 dL_projectedByRecursion_8 ?_
  exact w_L_projectedByRecursion_9  hd     (vL v 570 s1.toNatClampNeg s0.toInt64) hp hQ
def f_L_projectedByRecursion_13   (v : gV) : Int32 × gV := ((1 : Int32), v)
def p_L_projectedByRecursion_13   (v : gV) : Prop := True
set_option maxHeartbeats 4000000 in
set_option maxRecDepth 100000 in
theorem w_L_projectedByRecursion_13 {E : gE} {d : Nat} {Q : gO → gS → Prop}   (hd : 14 ≤ d)  (v : gV) (hp : p_L_projectedByRecursion_13    v) (hQ : gqIV Q (f_L_projectedByRecursion_13   v)) : gG E m_L_projectedByRecursion d Q 0 0 (rS v) 13 [] [] := by
  refine g_iconst dL_projectedByRecursion_13 (1 : Int32) (by decide) ?_
  exact g_iret rfl dL_projectedByRecursion_14 hQ
def f_L_projectedByRecursion_0  (x1 : Int32) (v : gV) : Int32 × gV := Sum.elim (fun (sr2 : Int32) => f_L_projectedByRecursion_7  sr2 (0 : Int32) v) (fun (e : String) => if e = "java/lang/IllegalArgumentException" then (f_L_projectedByRecursion_13   v) else ((0, v))) (f_X11_projectedByRecursion x1 v)
def p_L_projectedByRecursion_0  (x1 : Int32) (v : gV) : Prop := (p_X11_projectedByRecursion x1 v) ∧ ((∀ (sr2 : Int32), (f_X11_projectedByRecursion x1 v) = Sum.inl sr2 → (p_L_projectedByRecursion_7   sr2 (0 : Int32) v)) ∧ (∀ (e : String), (f_X11_projectedByRecursion x1 v) = Sum.inr e → (((e = "java/lang/IllegalArgumentException") → (p_L_projectedByRecursion_13    v)) ∧ (¬ (e = "java/lang/IllegalArgumentException") → (False)))))
set_option maxHeartbeats 4000000 in
set_option maxRecDepth 100000 in
theorem w_L_projectedByRecursion_0 {E : gE} {d : Nat} {Q : gO → gS → Prop}   (hd : 14 ≤ d) (x1 : Int32) (v : gV) (hp : p_L_projectedByRecursion_0   x1 v) (hQ : gqIV Q (f_L_projectedByRecursion_0  x1 v)) : gG E m_L_projectedByRecursion d Q 1 6 (rS v) 0 [(0, .ref (gX E + 0)), (1, .int x1), (2, .ref (gX E + 570))] [] := by
  refine g_aload_n 2 dL_projectedByRecursion_0 rfl ?_
  refine g_iconst dL_projectedByRecursion_1 (0 : Int32) (by decide) ?_
  refine g_aload_n 0 dL_projectedByRecursion_2 rfl ?_
  refine g_iload_n 1 dL_projectedByRecursion_3 rfl ?_
  obtain ⟨h1, hp⟩ := hp
  refine g_callV (rest := [.int ((0 : Int32)), .ref (gX E + 570)]) s_L_129_X11 rfl (c_X11_projectedByRecursion (E := E) (d := d - 1)   (by omega) x1 v h1) (by decide : kd 0 = (0, 8)) (show 0 < 572 by decide) rfl rfl (Nat.le_of_ble_eq_true rfl) (by omega) (by decide) (by decide) dL_projectedByRecursion_4 (adTI (fun sr2 h3 => ?_)) (axTI (fun e h3 => ?_))
  · have hQ := ql (P := gqIV Q) h3 hQ
    have hp := hp.1 sr2 h3
    refine g_lv (lv' := []) [] rfl ?_
    exact w_L_projectedByRecursion_7  hd    sr2 (0 : Int32) v hp hQ
  · have hQ := qe (P := gqIV Q) h3 hQ
    have hp := hp.2 e h3
    by_cases h5 : e = "java/lang/IllegalArgumentException"
    · subst h5
      have hQ := qp (P := gqIV Q) rfl hQ
      have hp := hp.1 rfl
      refine g_catch2 [] (0, 9, 12, 13) [] rfl (fun z hz => absurd hz List.not_mem_nil) (by decide) (by decide) w_722 w_753 (fun q => ?_)
      refine g_astore_n [(3, .ref q), (0, .ref (gX E + 0)), (1, .int x1), (2, .ref (gX E + 570))] dL_projectedByRecursion_12 rfl (by decide) rfl ?_
      refine g_lv (lv' := []) [] rfl ?_
      exact w_L_projectedByRecursion_13  hd     v hp hQ
    have hQ := qn (P := gqIV Q) h5 hQ
    have hp := hp.2 h5
    exact hp.elim
def f_L_projectedByRecursion  (x1 : Int32) (v : gV) : Int32 × gV := f_L_projectedByRecursion_0 x1 v
def p_L_projectedByRecursion  (x1 : Int32) (v : gV) : Prop := p_L_projectedByRecursion_0 x1 v
theorem c_L_projectedByRecursion {E : gE} {d : Nat}   (hd : 14 ≤ d) (x1 : Int32) (v : gV) (hp : p_L_projectedByRecursion x1 v) : CT E m_L_projectedByRecursion d 1 6 [.ref (gX E + 0), .int x1, .ref (gX E + 570)] (rS v) (Cq (.inl (some (.int ((f_L_projectedByRecursion x1 v).1)))) (f_L_projectedByRecursion x1 v).2) := CT.ofH ok_L_projectedByRecursion rfl (Nat.le_of_ble_eq_true rfl) (w_L_projectedByRecursion_0  hd x1 v hp ⟨rfl, rfl⟩)
def f_X1_projectionsAgree_7 (b : Nat) : Nat → Int32 → Int32 → gV → Int32
  | 0, _, _, v => 0
  | n + 1, x1, x2, v => if x1 < x2 then ((1 : Int32)) else (if (f_X9_projectByDelays b x2 x1 v) = (f_X9_projectBackwards b x2 x1 v) then (f_X1_projectionsAgree_7 b  n x1 (x2 + 1) v) else ((0 : Int32)))
def p_X1_projectionsAgree_7 (b : Nat) : Nat → Int32 → Int32 → gV → Prop
  | 0, _, _, _ => False
  | n + 1, x1, x2, v => ((x1 < x2) → (True)) ∧ (¬ (x1 < x2) → ((p_X9_projectByDelays b x2 x1 v) ∧ ((p_X9_projectBackwards b x2 x1 v) ∧ ((((f_X9_projectByDelays b x2 x1 v) = (f_X9_projectBackwards b x2 x1 v)) → (p_X1_projectionsAgree_7 b   n x1 (x2 + 1) v)) ∧ (¬ ((f_X9_projectByDelays b x2 x1 v) = (f_X9_projectBackwards b x2 x1 v)) → (True))))))
set_option maxHeartbeats 4000000 in
set_option maxRecDepth 100000 in
theorem w_X1_projectionsAgree_7 {E : gE} {d : Nat} {Q : gO → gS → Prop} (b : Nat) (hb : isBk b) (hd : 13 ≤ d) : ∀ (n : Nat) (x1 : Int32) (x2 : Int32) (v : gV), p_X1_projectionsAgree_7 b   n x1 x2 v → gqI Q v (f_X1_projectionsAgree_7 b  n x1 x2 v) → gG E m_X1_projectionsAgree d Q 0 0 (rS v) 7 [(0, .ref (gX E + b)), (1, .int x1), (2, .int x2)] [] := by
  intro n
  induction n with
  | zero => intro x1 x2 v hp; exact hp.elim
  | succ n ih =>
    intro x1 x2 v hp hQ
    refine g_iload_n 2 dX1_projectionsAgree_7 rfl ?_
    refine g_iload_n 1 dX1_projectionsAgree_8 rfl ?_
    refine g_icmp_gt 41 dX1_projectionsAgree_9 (by decide) (fun h2 => ?_) (fun h2 => ?_)
    · have hQ := qp (P := gqI Q v) h2 hQ
      have hp := hp.1 h2
      refine g_iconst dX1_projectionsAgree_41 (1 : Int32) (by decide) ?_
      exact g_zret rfl rfl dX1_projectionsAgree_42 hQ
    · have hQ := qn (P := gqI Q v) h2 hQ
      have hp := hp.2 h2
      refine g_aload_n 0 dX1_projectionsAgree_12 rfl ?_
      refine r_get (.ref (gX E + (b + 37))) f_X1_35_X1 rfl (kbz hb) (lt_b0 hb) dX1_projectionsAgree_13 (fun _ => rfl) ?_
      refine g_iload_n 2 dX1_projectionsAgree_16 rfl ?_
      refine g_iload_n 1 dX1_projectionsAgree_17 rfl ?_
      obtain ⟨h3, hp⟩ := hp
      refine g_callV (rest := []) s_X1_245_X9 rfl (c_X9_projectByDelays (E := E) (d := d - 1) b hb (by omega) x2 x1 v h3) (kb_37 hb) (lt_b hb (by decide)) rfl rfl (Nat.le_of_ble_eq_true rfl) (by omega) (by decide) (by decide) dX1_projectionsAgree_18 (adV ?_) axN
      refine g_aload_n 0 dX1_projectionsAgree_21 rfl ?_
      refine r_get (.ref (gX E + (b + 37))) f_X1_35_X1 rfl (kbz hb) (lt_b0 hb) dX1_projectionsAgree_22 (fun _ => rfl) ?_
      refine g_iload_n 2 dX1_projectionsAgree_25 rfl ?_
      refine g_iload_n 1 dX1_projectionsAgree_26 rfl ?_
      obtain ⟨h4, hp⟩ := hp
      refine g_callV (rest := [.int ((f_X9_projectByDelays b x2 x1 v))]) s_X1_248_X9 rfl (c_X9_projectBackwards (E := E) (d := d - 1) b hb (by omega) x2 x1 v h4) (kb_37 hb) (lt_b hb (by decide)) rfl rfl (Nat.le_of_ble_eq_true rfl) (by omega) (by decide) (by decide) dX1_projectionsAgree_27 (adV ?_) axN
      refine g_icmp_eq 35 dX1_projectionsAgree_30 (by decide) (fun h5 => ?_) (fun h5 => ?_)
      · have hQ := qp (P := gqI Q v) h5 hQ
        have hp := hp.1 h5
        refine g_iinc 2 (x2 + 1) [(2, .int (x2 + 1)), (0, .ref (gX E + b)), (1, .int x1)] dX1_projectionsAgree_35 rfl rfl (by decide) rfl ?_
        refine g_goto 7 dX1_projectionsAgree_38 (by decide) ?_
        refine g_lv (lv' := [(0, .ref (gX E + b)), (1, .int x1), (2, .int (x2 + 1))]) [1, 2, 0] rfl ?_
        exact ih x1 (x2 + 1) v hp hQ
      · have hQ := qn (P := gqI Q v) h5 hQ
        have hp := hp.2 h5
        refine g_iconst dX1_projectionsAgree_33 (0 : Int32) (by decide) ?_
        exact g_zret rfl rfl dX1_projectionsAgree_34 hQ
def f_X1_projectionsAgree_0 (b : Nat)  (v : gV) : Int32 := f_X1_projectionsAgree_7 b  5000 (f_X1_latestPeriod b v) (0 : Int32) v
def p_X1_projectionsAgree_0 (b : Nat)  (v : gV) : Prop := (p_X1_latestPeriod b v) ∧ (p_X1_projectionsAgree_7 b   5000 (f_X1_latestPeriod b v) (0 : Int32) v)
set_option maxHeartbeats 4000000 in
set_option maxRecDepth 100000 in
theorem w_X1_projectionsAgree_0 {E : gE} {d : Nat} {Q : gO → gS → Prop} (b : Nat) (hb : isBk b) (hd : 13 ≤ d)  (v : gV) (hp : p_X1_projectionsAgree_0 b    v) (hQ : gqI Q v (f_X1_projectionsAgree_0 b   v)) : gG E m_X1_projectionsAgree d Q 0 0 (rS v) 0 [(0, .ref (gX E + b))] [] := by
  refine g_aload_n 0 dX1_projectionsAgree_0 rfl ?_
  obtain ⟨h1, hp⟩ := hp
  refine g_callV (rest := []) s_X1_241_X1 rfl (c_X1_latestPeriod (E := E) (d := d - 1) b hb (by omega)  v h1) (kbz hb) (lt_b0 hb) rfl rfl (Nat.le_of_ble_eq_true rfl) (by omega) (by decide) (by decide) dX1_projectionsAgree_1 (adV ?_) axN
  refine g_istore_n [(1, .int ((f_X1_latestPeriod b v))), (0, .ref (gX E + b))] dX1_projectionsAgree_4 rfl (by decide) rfl ?_
  refine g_iconst dX1_projectionsAgree_5 (0 : Int32) (by decide) ?_
  refine g_istore_n [(2, .int ((0 : Int32))), (1, .int ((f_X1_latestPeriod b v))), (0, .ref (gX E + b))] dX1_projectionsAgree_6 rfl (by decide) rfl ?_
  refine g_lv (lv' := [(0, .ref (gX E + b)), (1, .int ((f_X1_latestPeriod b v))), (2, .int ((0 : Int32)))]) [2, 1, 0] rfl ?_
  exact w_X1_projectionsAgree_7 b hb hd    5000 (f_X1_latestPeriod b v) (0 : Int32) v hp hQ
def f_X1_projectionsAgree (b : Nat)  (v : gV) : Int32 := f_X1_projectionsAgree_0 b  v
def p_X1_projectionsAgree (b : Nat)  (v : gV) : Prop := p_X1_projectionsAgree_0 b  v
theorem c_X1_projectionsAgree {E : gE} {d : Nat} (b : Nat) (hb : isBk b) (hd : 13 ≤ d)  (v : gV) (hp : p_X1_projectionsAgree b  v) : CT E m_X1_projectionsAgree d 0 0 [.ref (gX E + b)] (rS v) (Cq (.inl (some (.int (f_X1_projectionsAgree b  v)))) v) := CT.of ok_X1_projectionsAgree rfl (Nat.le_of_ble_eq_true rfl) (w_X1_projectionsAgree_0 b hb hd  v hp ⟨rfl, rfl⟩)
def f_X11_isConsistent_65  (s0 : Int32) (v : gV) : Int32 × gV := (s0, v)
def p_X11_isConsistent_65  (s0 : Int32) (v : gV) : Prop := (s0 = 0 ∨ s0 = 1) ∧ (True)
set_option maxHeartbeats 4000000 in
set_option maxRecDepth 100000 in
theorem w_X11_isConsistent_65 {E : gE} {d : Nat} {Q : gO → gS → Prop}   (hd : 14 ≤ d) (s0 : Int32) (v : gV) (hp : p_X11_isConsistent_65   s0 v) (hQ : gqIV Q (f_X11_isConsistent_65  s0 v)) : gG E m_X11_isConsistent d Q 0 0 (rS v) 65 [] [.int s0] := by
  obtain ⟨h3, hp⟩ := hp
  exact g_zret rfl (nz h3) dX11_isConsistent_65 hQ
def f_X11_isConsistent_64   (v : gV) : Int32 × gV := f_X11_isConsistent_65  (0 : Int32) v
def p_X11_isConsistent_64   (v : gV) : Prop := p_X11_isConsistent_65   (0 : Int32) v
set_option maxHeartbeats 4000000 in
set_option maxRecDepth 100000 in
theorem w_X11_isConsistent_64 {E : gE} {d : Nat} {Q : gO → gS → Prop}   (hd : 14 ≤ d)  (v : gV) (hp : p_X11_isConsistent_64    v) (hQ : gqIV Q (f_X11_isConsistent_64   v)) : gG E m_X11_isConsistent d Q 0 0 (rS v) 64 [] [] := by
  refine g_iconst dX11_isConsistent_64 (0 : Int32) (by decide) ?_
  exact w_X11_isConsistent_65  hd    (0 : Int32) v hp hQ
def f_X11_isConsistent_57  (s0 : Int32) (v : gV) : Int32 × gV := if s0 = 0 then (f_X11_isConsistent_64   v) else (f_X11_isConsistent_65  (1 : Int32) v)
def p_X11_isConsistent_57  (s0 : Int32) (v : gV) : Prop := ((s0 = 0) → (p_X11_isConsistent_64    v)) ∧ (¬ (s0 = 0) → (p_X11_isConsistent_65   (1 : Int32) v))
set_option maxHeartbeats 4000000 in
set_option maxRecDepth 100000 in
theorem w_X11_isConsistent_57 {E : gE} {d : Nat} {Q : gO → gS → Prop}   (hd : 14 ≤ d) (s0 : Int32) (v : gV) (hp : p_X11_isConsistent_57   s0 v) (hQ : gqIV Q (f_X11_isConsistent_57  s0 v)) : gG E m_X11_isConsistent d Q 0 0 (rS v) 57 [] [.int s0] := by
  refine g_if_eq 64 dX11_isConsistent_57 (by decide) (fun h13 => ?_) (fun h13 => ?_)
  · have hQ := qp (P := gqIV Q) h13 hQ
    have hp := hp.1 h13
    exact w_X11_isConsistent_64  hd     v hp hQ
  · have hQ := qn (P := gqIV Q) h13 hQ
    have hp := hp.2 h13
    refine g_iconst dX11_isConsistent_60 (1 : Int32) (by decide) ?_
    refine g_goto 65 dX11_isConsistent_61 (by decide) ?_
    exact w_X11_isConsistent_65  hd    (1 : Int32) v hp hQ
def f_X11_isConsistent_37  (s0 : Int32) (v : gV) : Int32 × gV := if s0 = 0 then (f_X11_isConsistent_64   v) else (if (f_X1_projectionsAgree 1 v) = 0 then (f_X11_isConsistent_64   v) else (f_X11_isConsistent_57  ((f_X1_coversAgree 1 v).1) (f_X1_coversAgree 1 v).2))
def p_X11_isConsistent_37  (s0 : Int32) (v : gV) : Prop := ((s0 = 0) → (p_X11_isConsistent_64    v)) ∧ (¬ (s0 = 0) → ((p_X1_projectionsAgree 1 v) ∧ ((((f_X1_projectionsAgree 1 v) = 0) → (p_X11_isConsistent_64    v)) ∧ (¬ ((f_X1_projectionsAgree 1 v) = 0) → ((p_X1_coversAgree 1 v) ∧ (p_X11_isConsistent_57   ((f_X1_coversAgree 1 v).1) (f_X1_coversAgree 1 v).2))))))
set_option maxHeartbeats 4000000 in
set_option maxRecDepth 100000 in
theorem w_X11_isConsistent_37 {E : gE} {d : Nat} {Q : gO → gS → Prop}   (hd : 14 ≤ d) (s0 : Int32) (v : gV) (hp : p_X11_isConsistent_37   s0 v) (hQ : gqIV Q (f_X11_isConsistent_37  s0 v)) : gG E m_X11_isConsistent d Q 0 0 (rS v) 37 [(0, .ref (gX E + 0))] [.int s0] := by
  refine g_if_eq 64 dX11_isConsistent_37 (by decide) (fun h9 => ?_) (fun h9 => ?_)
  · have hQ := qp (P := gqIV Q) h9 hQ
    have hp := hp.1 h9
    refine g_lv (lv' := []) [] rfl ?_
    exact w_X11_isConsistent_64  hd     v hp hQ
  · have hQ := qn (P := gqIV Q) h9 hQ
    have hp := hp.2 h9
    refine g_aload_n 0 dX11_isConsistent_40 rfl ?_
    refine r_get (.ref (gX E + 1)) f_X11_10_X11 rfl (by decide : kd 0 = (0, 8)) (show 0 < 572 by decide) dX11_isConsistent_41 (fun _ => rfl) ?_
    obtain ⟨h10, hp⟩ := hp
    refine g_callV (rest := []) s_X11_276_X1 rfl (c_X1_projectionsAgree (E := E) (d := d - 1) 1 isBk_1 (by omega)  v h10) (kbz isBk_1) (lt_b0 isBk_1) rfl rfl (Nat.le_of_ble_eq_true rfl) (by omega) (by decide) (by decide) dX11_isConsistent_44 (adV ?_) axN
    refine g_if_eq 64 dX11_isConsistent_47 (by decide) (fun h11 => ?_) (fun h11 => ?_)
    · have hQ := qp (P := gqIV Q) h11 hQ
      have hp := hp.1 h11
      refine g_lv (lv' := []) [] rfl ?_
      exact w_X11_isConsistent_64  hd     v hp hQ
    · have hQ := qn (P := gqIV Q) h11 hQ
      have hp := hp.2 h11
      refine g_aload_n 0 dX11_isConsistent_50 rfl ?_
      refine r_get (.ref (gX E + 1)) f_X11_10_X11 rfl (by decide : kd 0 = (0, 8)) (show 0 < 572 by decide) dX11_isConsistent_51 (fun _ => rfl) ?_
      obtain ⟨h12, hp⟩ := hp
      refine g_callV (rest := []) s_X11_279_X1 rfl (c_X1_coversAgree (E := E) (d := d - 1) 1 isBk_1 (by omega)  v h12) (kbz isBk_1) (lt_b0 isBk_1) rfl rfl (Nat.le_of_ble_eq_true rfl) (by omega) (by decide) (by decide) dX11_isConsistent_54 (adV ?_) axN
      refine g_lv (lv' := []) [] rfl ?_
      exact w_X11_isConsistent_57  hd    ((f_X1_coversAgree 1 v).1) (f_X1_coversAgree 1 v).2 hp hQ
def f_X11_isConsistent_27  (s0 : Int32) (v : gV) : Int32 × gV := if s0 = 0 then (f_X11_isConsistent_64   v) else (f_X11_isConsistent_37  ((f_X1_outcomesAgree 1 v).1) (f_X1_outcomesAgree 1 v).2)
def p_X11_isConsistent_27  (s0 : Int32) (v : gV) : Prop := ((s0 = 0) → (p_X11_isConsistent_64    v)) ∧ (¬ (s0 = 0) → ((p_X1_outcomesAgree 1 v) ∧ (p_X11_isConsistent_37   ((f_X1_outcomesAgree 1 v).1) (f_X1_outcomesAgree 1 v).2)))
set_option maxHeartbeats 4000000 in
set_option maxRecDepth 100000 in
theorem w_X11_isConsistent_27 {E : gE} {d : Nat} {Q : gO → gS → Prop}   (hd : 14 ≤ d) (s0 : Int32) (v : gV) (hp : p_X11_isConsistent_27   s0 v) (hQ : gqIV Q (f_X11_isConsistent_27  s0 v)) : gG E m_X11_isConsistent d Q 0 0 (rS v) 27 [(0, .ref (gX E + 0))] [.int s0] := by
  refine g_if_eq 64 dX11_isConsistent_27 (by decide) (fun h7 => ?_) (fun h7 => ?_)
  · have hQ := qp (P := gqIV Q) h7 hQ
    have hp := hp.1 h7
    refine g_lv (lv' := []) [] rfl ?_
    exact w_X11_isConsistent_64  hd     v hp hQ
  · have hQ := qn (P := gqIV Q) h7 hQ
    have hp := hp.2 h7
    refine g_aload_n 0 dX11_isConsistent_30 rfl ?_
    refine r_get (.ref (gX E + 1)) f_X11_10_X11 rfl (by decide : kd 0 = (0, 8)) (show 0 < 572 by decide) dX11_isConsistent_31 (fun _ => rfl) ?_
    obtain ⟨h8, hp⟩ := hp
    refine g_callV (rest := []) s_X11_273_X1 rfl (c_X1_outcomesAgree (E := E) (d := d - 1) 1 isBk_1 (by omega)  v h8) (kbz isBk_1) (lt_b0 isBk_1) rfl rfl (Nat.le_of_ble_eq_true rfl) (by omega) (by decide) (by decide) dX11_isConsistent_34 (adV ?_) axN
    exact w_X11_isConsistent_37  hd    ((f_X1_outcomesAgree 1 v).1) (f_X1_outcomesAgree 1 v).2 hp hQ
def f_X11_isConsistent_0   (v : gV) : Int32 × gV := if (f_X1_isBalanced 1 v) = 0 then (f_X11_isConsistent_64   v) else (if (f_X1_keepsCapacities 1 v) = 0 then (f_X11_isConsistent_64   v) else (f_X11_isConsistent_27  ((f_X1_layersAgree 1 v).1) (f_X1_layersAgree 1 v).2))
def p_X11_isConsistent_0   (v : gV) : Prop := (p_X1_isBalanced 1 v) ∧ ((((f_X1_isBalanced 1 v) = 0) → (p_X11_isConsistent_64    v)) ∧ (¬ ((f_X1_isBalanced 1 v) = 0) → ((p_X1_keepsCapacities 1 v) ∧ ((((f_X1_keepsCapacities 1 v) = 0) → (p_X11_isConsistent_64    v)) ∧ (¬ ((f_X1_keepsCapacities 1 v) = 0) → ((p_X1_layersAgree 1 v) ∧ (p_X11_isConsistent_27   ((f_X1_layersAgree 1 v).1) (f_X1_layersAgree 1 v).2)))))))
set_option maxHeartbeats 4000000 in
set_option maxRecDepth 100000 in
theorem w_X11_isConsistent_0 {E : gE} {d : Nat} {Q : gO → gS → Prop}   (hd : 14 ≤ d)  (v : gV) (hp : p_X11_isConsistent_0    v) (hQ : gqIV Q (f_X11_isConsistent_0   v)) : gG E m_X11_isConsistent d Q 0 0 (rS v) 0 [(0, .ref (gX E + 0))] [] := by
  refine g_aload_n 0 dX11_isConsistent_0 rfl ?_
  refine r_get (.ref (gX E + 1)) f_X11_10_X11 rfl (by decide : kd 0 = (0, 8)) (show 0 < 572 by decide) dX11_isConsistent_1 (fun _ => rfl) ?_
  obtain ⟨h1, hp⟩ := hp
  refine g_callV (rest := []) s_X11_263_X1 rfl (c_X1_isBalanced (E := E) (d := d - 1) 1 isBk_1 (by omega)  v h1) (kbz isBk_1) (lt_b0 isBk_1) rfl rfl (Nat.le_of_ble_eq_true rfl) (by omega) (by decide) (by decide) dX11_isConsistent_4 (adV ?_) axN
  refine g_if_eq 64 dX11_isConsistent_7 (by decide) (fun h2 => ?_) (fun h2 => ?_)
  · have hQ := qp (P := gqIV Q) h2 hQ
    have hp := hp.1 h2
    refine g_lv (lv' := []) [] rfl ?_
    exact w_X11_isConsistent_64  hd     v hp hQ
  · have hQ := qn (P := gqIV Q) h2 hQ
    have hp := hp.2 h2
    refine g_aload_n 0 dX11_isConsistent_10 rfl ?_
    refine r_get (.ref (gX E + 1)) f_X11_10_X11 rfl (by decide : kd 0 = (0, 8)) (show 0 < 572 by decide) dX11_isConsistent_11 (fun _ => rfl) ?_
    obtain ⟨h4, hp⟩ := hp
    refine g_callV (rest := []) s_X11_267_X1 rfl (c_X1_keepsCapacities (E := E) (d := d - 1) 1 isBk_1 (by omega)  v h4) (kbz isBk_1) (lt_b0 isBk_1) rfl rfl (Nat.le_of_ble_eq_true rfl) (by omega) (by decide) (by decide) dX11_isConsistent_14 (adV ?_) axN
    refine g_if_eq 64 dX11_isConsistent_17 (by decide) (fun h5 => ?_) (fun h5 => ?_)
    · have hQ := qp (P := gqIV Q) h5 hQ
      have hp := hp.1 h5
      refine g_lv (lv' := []) [] rfl ?_
      exact w_X11_isConsistent_64  hd     v hp hQ
    · have hQ := qn (P := gqIV Q) h5 hQ
      have hp := hp.2 h5
      refine g_aload_n 0 dX11_isConsistent_20 rfl ?_
      refine r_get (.ref (gX E + 1)) f_X11_10_X11 rfl (by decide : kd 0 = (0, 8)) (show 0 < 572 by decide) dX11_isConsistent_21 (fun _ => rfl) ?_
      obtain ⟨h6, hp⟩ := hp
      refine g_callV (rest := []) s_X11_270_X1 rfl (c_X1_layersAgree (E := E) (d := d - 1) 1 isBk_1 (by omega)  v h6) (kbz isBk_1) (lt_b0 isBk_1) rfl rfl (Nat.le_of_ble_eq_true rfl) (by omega) (by decide) (by decide) dX11_isConsistent_24 (adV ?_) axN
      exact w_X11_isConsistent_27  hd    ((f_X1_layersAgree 1 v).1) (f_X1_layersAgree 1 v).2 hp hQ
def f_X11_isConsistent   (v : gV) : Int32 × gV := f_X11_isConsistent_0  v
def p_X11_isConsistent   (v : gV) : Prop := p_X11_isConsistent_0  v
theorem c_X11_isConsistent {E : gE} {d : Nat}   (hd : 14 ≤ d)  (v : gV) (hp : p_X11_isConsistent  v) : CT E m_X11_isConsistent d 0 0 [.ref (gX E + 0)] (rS v) (Cq (.inl (some (.int ((f_X11_isConsistent  v).1)))) (f_X11_isConsistent  v).2) := CT.of ok_X11_isConsistent rfl (Nat.le_of_ble_eq_true rfl) (w_X11_isConsistent_0  hd  v hp ⟨rfl, rfl⟩)
