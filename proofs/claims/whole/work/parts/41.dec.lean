def f_X11_claim_25  (s0 : Int32) (v : gV) : (Int32 ⊕ String) × gV := (Sum.inl s0, v)
def p_X11_claim_25  (s0 : Int32) (v : gV) : Prop := True
set_option maxHeartbeats 4000000 in
set_option maxRecDepth 100000 in
theorem w_X11_claim_25 {E : gE} {d : Nat} {Q : gO → gS → Prop}   (hd : 11 ≤ d) (s0 : Int32) (v : gV) (hp : p_X11_claim_25   s0 v) (hQ : gqTIV Q (f_X11_claim_25  s0 v)) : gG E m_X11_claim d Q 0 0 (rS v) 25 [] [.int s0] := by
  exact g_iret rfl dX11_claim_25 hQ
def f_X11_claim_22  (s0 : Int32) (v : gV) : (Int32 ⊕ String) × gV := f_X11_claim_25  ((f_X11_changed s0 v).1) (f_X11_changed s0 v).2
def p_X11_claim_22  (s0 : Int32) (v : gV) : Prop := (p_X11_changed s0 v) ∧ (p_X11_claim_25   ((f_X11_changed s0 v).1) (f_X11_changed s0 v).2)
set_option maxHeartbeats 4000000 in
set_option maxRecDepth 100000 in
theorem w_X11_claim_22 {E : gE} {d : Nat} {Q : gO → gS → Prop}   (hd : 11 ≤ d) (s0 : Int32) (v : gV) (hp : p_X11_claim_22   s0 v) (hQ : gqTIV Q (f_X11_claim_22  s0 v)) : gG E m_X11_claim d Q 0 0 (rS v) 22 [] [.int s0, .ref (gX E + 0)] := by
  obtain ⟨h5, hp⟩ := hp
  refine g_callV (rest := []) s_X11_59_X11 rfl (c_X11_changed (E := E) (d := d - 1)   (by omega) s0 v h5) (by decide : kd 0 = (0, 8)) (show 0 < 572 by decide) rfl rfl (Nat.le_of_ble_eq_true rfl) (by omega) (by decide) (by decide) dX11_claim_22 (adV ?_) axN
  exact w_X11_claim_25  hd    ((f_X11_changed s0 v).1) (f_X11_changed s0 v).2 hp hQ
def f_X11_claim_11  (x1 : Int32) (x2 : Int32) (x3 : Int32) (v : gV) : (Int32 ⊕ String) × gV := Sum.elim (fun (sr3 : Int32) => f_X11_claim_22  sr3 (f_X1_makeClaim 1 x1 x2 x3 v).2) (fun (e : String) => (Sum.inr e, (f_X1_makeClaim 1 x1 x2 x3 v).2)) (f_X1_makeClaim 1 x1 x2 x3 v).1
def p_X11_claim_11  (x1 : Int32) (x2 : Int32) (x3 : Int32) (v : gV) : Prop := (p_X1_makeClaim 1 x1 x2 x3 v) ∧ (∀ (sr3 : Int32), (f_X1_makeClaim 1 x1 x2 x3 v).1 = Sum.inl sr3 → (p_X11_claim_22   sr3 (f_X1_makeClaim 1 x1 x2 x3 v).2))
set_option maxHeartbeats 4000000 in
set_option maxRecDepth 100000 in
theorem w_X11_claim_11 {E : gE} {d : Nat} {Q : gO → gS → Prop}   (hd : 11 ≤ d) (x1 : Int32) (x2 : Int32) (x3 : Int32) (v : gV) (hp : p_X11_claim_11   x1 x2 x3 v) (hQ : gqTIV Q (f_X11_claim_11  x1 x2 x3 v)) : gG E m_X11_claim d Q 3 18 (rS v) 11 [(0, .ref (gX E + 0)), (1, .int x1), (2, .int x2), (3, .int x3)] [] := by
  refine g_aload_n 0 dX11_claim_11 rfl ?_
  refine g_aload_n 0 dX11_claim_12 rfl ?_
  refine r_get (.ref (gX E + 1)) f_X11_10_X11 rfl (by decide : kd 0 = (0, 8)) (show 0 < 572 by decide) dX11_claim_13 (fun _ => rfl) ?_
  refine g_iload_n 1 dX11_claim_16 rfl ?_
  refine g_iload_n 2 dX11_claim_17 rfl ?_
  refine g_iload_n 3 dX11_claim_18 rfl ?_
  obtain ⟨h2, hp⟩ := hp
  refine g_callV (rest := [.ref (gX E + 0)]) s_X11_73_X1 rfl (c_X1_makeClaim (E := E) (d := d - 1) 1 isBk_1 (by omega) x1 x2 x3 v h2) (kbz isBk_1) (lt_b0 isBk_1) rfl rfl (Nat.le_of_ble_eq_true rfl) (by omega) (by decide) (by decide) dX11_claim_19 (adTI (fun sr3 h4 => ?_)) (axTI (fun e h4 => g_outs rfl rfl (qe (P := gqTIV Q) h4 hQ)))
  have hQ := ql (P := gqTIV Q) h4 hQ
  have hp := hp sr3 h4
  refine g_lv (lv' := []) [] rfl ?_
  exact w_X11_claim_22  hd    sr3 (f_X1_makeClaim 1 x1 x2 x3 v).2 hp hQ
def f_X11_claim_0  (x1 : Int32) (x2 : Int32) (x3 : Int32) (v : gV) : (Int32 ⊕ String) × gV := f_X11_claim_11  x1 x2 x3 (f_X3_prepare 1 v)
def p_X11_claim_0  (x1 : Int32) (x2 : Int32) (x3 : Int32) (v : gV) : Prop := (p_X3_prepare 1 v) ∧ (p_X11_claim_11   x1 x2 x3 (f_X3_prepare 1 v))
set_option maxHeartbeats 4000000 in
set_option maxRecDepth 100000 in
theorem w_X11_claim_0 {E : gE} {d : Nat} {Q : gO → gS → Prop}   (hd : 11 ≤ d) (x1 : Int32) (x2 : Int32) (x3 : Int32) (v : gV) (hp : p_X11_claim_0   x1 x2 x3 v) (hQ : gqTIV Q (f_X11_claim_0  x1 x2 x3 v)) : gG E m_X11_claim d Q 3 18 (rS v) 0 [(0, .ref (gX E + 0)), (1, .int x1), (2, .int x2), (3, .int x3)] [] := by
  refine g_aload_n 0 dX11_claim_0 rfl ?_
  refine r_get (.ref (gX E + 101)) f_X11_22_X11 rfl (by decide : kd 0 = (0, 8)) (show 0 < 572 by decide) dX11_claim_1 (fun _ => rfl) ?_
  refine g_aload_n 0 dX11_claim_4 rfl ?_
  refine r_get (.ref (gX E + 1)) f_X11_10_X11 rfl (by decide : kd 0 = (0, 8)) (show 0 < 572 by decide) dX11_claim_5 (fun _ => rfl) ?_
  obtain ⟨h1, hp⟩ := hp
  refine g_callV (rest := []) s_X11_51_X3 rfl (c_X3_prepare (E := E) (d := d - 1) 1 isBk_1 (by omega)  v h1) (by decide : kd 101 = (0, 2)) (show 101 < 572 by decide) rfl rfl (Nat.le_of_ble_eq_true rfl) (by omega) (by decide) (by decide) dX11_claim_8 (adN ?_) axN
  exact w_X11_claim_11  hd    x1 x2 x3 (f_X3_prepare 1 v) hp hQ
def f_X11_claim  (x1 : Int32) (x2 : Int32) (x3 : Int32) (v : gV) : (Int32 ⊕ String) × gV := f_X11_claim_0 x1 x2 x3 v
def p_X11_claim  (x1 : Int32) (x2 : Int32) (x3 : Int32) (v : gV) : Prop := p_X11_claim_0 x1 x2 x3 v
theorem c_X11_claim {E : gE} {d : Nat}   (hd : 11 ≤ d) (x1 : Int32) (x2 : Int32) (x3 : Int32) (v : gV) (hp : p_X11_claim x1 x2 x3 v) : CT E m_X11_claim d 3 18 [.ref (gX E + 0), .int x1, .int x2, .int x3] (rS v) (Cq (gOi (f_X11_claim x1 x2 x3 v).1) (f_X11_claim x1 x2 x3 v).2) := CT.of ok_X11_claim rfl (Nat.le_of_ble_eq_true rfl) (w_X11_claim_0  hd x1 x2 x3 v hp ⟨rfl, rfl⟩)
def f_X11_pay_24  (s0 : Int32) (v : gV) : (Int32 ⊕ String) × gV := (Sum.inl s0, v)
def p_X11_pay_24  (s0 : Int32) (v : gV) : Prop := True
set_option maxHeartbeats 4000000 in
set_option maxRecDepth 100000 in
theorem w_X11_pay_24 {E : gE} {d : Nat} {Q : gO → gS → Prop}   (hd : 9 ≤ d) (s0 : Int32) (v : gV) (hp : p_X11_pay_24   s0 v) (hQ : gqTIV Q (f_X11_pay_24  s0 v)) : gG E m_X11_pay d Q 0 0 (rS v) 24 [] [.int s0] := by
  exact g_iret rfl dX11_pay_24 hQ
def f_X11_pay_21  (s0 : Int32) (v : gV) : (Int32 ⊕ String) × gV := f_X11_pay_24  ((f_X11_changed s0 v).1) (f_X11_changed s0 v).2
def p_X11_pay_21  (s0 : Int32) (v : gV) : Prop := (p_X11_changed s0 v) ∧ (p_X11_pay_24   ((f_X11_changed s0 v).1) (f_X11_changed s0 v).2)
set_option maxHeartbeats 4000000 in
set_option maxRecDepth 100000 in
theorem w_X11_pay_21 {E : gE} {d : Nat} {Q : gO → gS → Prop}   (hd : 9 ≤ d) (s0 : Int32) (v : gV) (hp : p_X11_pay_21   s0 v) (hQ : gqTIV Q (f_X11_pay_21  s0 v)) : gG E m_X11_pay d Q 0 0 (rS v) 21 [] [.int s0, .ref (gX E + 0)] := by
  obtain ⟨h5, hp⟩ := hp
  refine g_callV (rest := []) s_X11_59_X11 rfl (c_X11_changed (E := E) (d := d - 1)   (by omega) s0 v h5) (by decide : kd 0 = (0, 8)) (show 0 < 572 by decide) rfl rfl (Nat.le_of_ble_eq_true rfl) (by omega) (by decide) (by decide) dX11_pay_21 (adV ?_) axN
  exact w_X11_pay_24  hd    ((f_X11_changed s0 v).1) (f_X11_changed s0 v).2 hp hQ
def f_X11_pay_11  (x1 : Int32) (x2 : Int32) (v : gV) : (Int32 ⊕ String) × gV := Sum.elim (fun (sr3 : Int32) => f_X11_pay_21  sr3 (f_X1_payPart 1 x1 x2 v).2) (fun (e : String) => (Sum.inr e, (f_X1_payPart 1 x1 x2 v).2)) (f_X1_payPart 1 x1 x2 v).1
def p_X11_pay_11  (x1 : Int32) (x2 : Int32) (v : gV) : Prop := (p_X1_payPart 1 x1 x2 v) ∧ (∀ (sr3 : Int32), (f_X1_payPart 1 x1 x2 v).1 = Sum.inl sr3 → (p_X11_pay_21   sr3 (f_X1_payPart 1 x1 x2 v).2))
set_option maxHeartbeats 4000000 in
set_option maxRecDepth 100000 in
theorem w_X11_pay_11 {E : gE} {d : Nat} {Q : gO → gS → Prop}   (hd : 9 ≤ d) (x1 : Int32) (x2 : Int32) (v : gV) (hp : p_X11_pay_11   x1 x2 v) (hQ : gqTIV Q (f_X11_pay_11  x1 x2 v)) : gG E m_X11_pay d Q 3 18 (rS v) 11 [(0, .ref (gX E + 0)), (1, .int x1), (2, .int x2)] [] := by
  refine g_aload_n 0 dX11_pay_11 rfl ?_
  refine g_aload_n 0 dX11_pay_12 rfl ?_
  refine r_get (.ref (gX E + 1)) f_X11_10_X11 rfl (by decide : kd 0 = (0, 8)) (show 0 < 572 by decide) dX11_pay_13 (fun _ => rfl) ?_
  refine g_iload_n 1 dX11_pay_16 rfl ?_
  refine g_iload_n 2 dX11_pay_17 rfl ?_
  obtain ⟨h2, hp⟩ := hp
  refine g_callV (rest := [.ref (gX E + 0)]) s_X11_77_X1 rfl (c_X1_payPart (E := E) (d := d - 1) 1 isBk_1 (by omega) x1 x2 v h2) (kbz isBk_1) (lt_b0 isBk_1) rfl rfl (Nat.le_of_ble_eq_true rfl) (by omega) (by decide) (by decide) dX11_pay_18 (adTI (fun sr3 h4 => ?_)) (axTI (fun e h4 => g_outs rfl rfl (qe (P := gqTIV Q) h4 hQ)))
  have hQ := ql (P := gqTIV Q) h4 hQ
  have hp := hp sr3 h4
  refine g_lv (lv' := []) [] rfl ?_
  exact w_X11_pay_21  hd    sr3 (f_X1_payPart 1 x1 x2 v).2 hp hQ
def f_X11_pay_0  (x1 : Int32) (x2 : Int32) (v : gV) : (Int32 ⊕ String) × gV := f_X11_pay_11  x1 x2 (f_X3_prepare 1 v)
def p_X11_pay_0  (x1 : Int32) (x2 : Int32) (v : gV) : Prop := (p_X3_prepare 1 v) ∧ (p_X11_pay_11   x1 x2 (f_X3_prepare 1 v))
set_option maxHeartbeats 4000000 in
set_option maxRecDepth 100000 in
theorem w_X11_pay_0 {E : gE} {d : Nat} {Q : gO → gS → Prop}   (hd : 9 ≤ d) (x1 : Int32) (x2 : Int32) (v : gV) (hp : p_X11_pay_0   x1 x2 v) (hQ : gqTIV Q (f_X11_pay_0  x1 x2 v)) : gG E m_X11_pay d Q 3 18 (rS v) 0 [(0, .ref (gX E + 0)), (1, .int x1), (2, .int x2)] [] := by
  refine g_aload_n 0 dX11_pay_0 rfl ?_
  refine r_get (.ref (gX E + 101)) f_X11_22_X11 rfl (by decide : kd 0 = (0, 8)) (show 0 < 572 by decide) dX11_pay_1 (fun _ => rfl) ?_
  refine g_aload_n 0 dX11_pay_4 rfl ?_
  refine r_get (.ref (gX E + 1)) f_X11_10_X11 rfl (by decide : kd 0 = (0, 8)) (show 0 < 572 by decide) dX11_pay_5 (fun _ => rfl) ?_
  obtain ⟨h1, hp⟩ := hp
  refine g_callV (rest := []) s_X11_51_X3 rfl (c_X3_prepare (E := E) (d := d - 1) 1 isBk_1 (by omega)  v h1) (by decide : kd 101 = (0, 2)) (show 101 < 572 by decide) rfl rfl (Nat.le_of_ble_eq_true rfl) (by omega) (by decide) (by decide) dX11_pay_8 (adN ?_) axN
  exact w_X11_pay_11  hd    x1 x2 (f_X3_prepare 1 v) hp hQ
def f_X11_pay  (x1 : Int32) (x2 : Int32) (v : gV) : (Int32 ⊕ String) × gV := f_X11_pay_0 x1 x2 v
def p_X11_pay  (x1 : Int32) (x2 : Int32) (v : gV) : Prop := p_X11_pay_0 x1 x2 v
theorem c_X11_pay {E : gE} {d : Nat}   (hd : 9 ≤ d) (x1 : Int32) (x2 : Int32) (v : gV) (hp : p_X11_pay x1 x2 v) : CT E m_X11_pay d 3 18 [.ref (gX E + 0), .int x1, .int x2] (rS v) (Cq (gOi (f_X11_pay x1 x2 v).1) (f_X11_pay x1 x2 v).2) := CT.of ok_X11_pay rfl (Nat.le_of_ble_eq_true rfl) (w_X11_pay_0  hd x1 x2 v hp ⟨rfl, rfl⟩)
def f_X11_closeClaim_23  (s0 : Int32) (v : gV) : (Int32 ⊕ String) × gV := (Sum.inl s0, v)
def p_X11_closeClaim_23  (s0 : Int32) (v : gV) : Prop := True
set_option maxHeartbeats 4000000 in
set_option maxRecDepth 100000 in
theorem w_X11_closeClaim_23 {E : gE} {d : Nat} {Q : gO → gS → Prop}   (hd : 9 ≤ d) (s0 : Int32) (v : gV) (hp : p_X11_closeClaim_23   s0 v) (hQ : gqTIV Q (f_X11_closeClaim_23  s0 v)) : gG E m_X11_closeClaim d Q 0 0 (rS v) 23 [] [.int s0] := by
  exact g_iret rfl dX11_closeClaim_23 hQ
def f_X11_closeClaim_20  (s0 : Int32) (v : gV) : (Int32 ⊕ String) × gV := f_X11_closeClaim_23  ((f_X11_changed s0 v).1) (f_X11_changed s0 v).2
def p_X11_closeClaim_20  (s0 : Int32) (v : gV) : Prop := (p_X11_changed s0 v) ∧ (p_X11_closeClaim_23   ((f_X11_changed s0 v).1) (f_X11_changed s0 v).2)
set_option maxHeartbeats 4000000 in
set_option maxRecDepth 100000 in
theorem w_X11_closeClaim_20 {E : gE} {d : Nat} {Q : gO → gS → Prop}   (hd : 9 ≤ d) (s0 : Int32) (v : gV) (hp : p_X11_closeClaim_20   s0 v) (hQ : gqTIV Q (f_X11_closeClaim_20  s0 v)) : gG E m_X11_closeClaim d Q 0 0 (rS v) 20 [] [.int s0, .ref (gX E + 0)] := by
  obtain ⟨h5, hp⟩ := hp
  refine g_callV (rest := []) s_X11_59_X11 rfl (c_X11_changed (E := E) (d := d - 1)   (by omega) s0 v h5) (by decide : kd 0 = (0, 8)) (show 0 < 572 by decide) rfl rfl (Nat.le_of_ble_eq_true rfl) (by omega) (by decide) (by decide) dX11_closeClaim_20 (adV ?_) axN
  exact w_X11_closeClaim_23  hd    ((f_X11_changed s0 v).1) (f_X11_changed s0 v).2 hp hQ
def f_X11_closeClaim_11  (x1 : Int32) (v : gV) : (Int32 ⊕ String) × gV := Sum.elim (fun (sr3 : Int32) => f_X11_closeClaim_20  sr3 (f_X1_removePaidClaim 1 x1 v).2) (fun (e : String) => (Sum.inr e, (f_X1_removePaidClaim 1 x1 v).2)) (f_X1_removePaidClaim 1 x1 v).1
def p_X11_closeClaim_11  (x1 : Int32) (v : gV) : Prop := (p_X1_removePaidClaim 1 x1 v) ∧ (∀ (sr3 : Int32), (f_X1_removePaidClaim 1 x1 v).1 = Sum.inl sr3 → (p_X11_closeClaim_20   sr3 (f_X1_removePaidClaim 1 x1 v).2))
set_option maxHeartbeats 4000000 in
set_option maxRecDepth 100000 in
theorem w_X11_closeClaim_11 {E : gE} {d : Nat} {Q : gO → gS → Prop}   (hd : 9 ≤ d) (x1 : Int32) (v : gV) (hp : p_X11_closeClaim_11   x1 v) (hQ : gqTIV Q (f_X11_closeClaim_11  x1 v)) : gG E m_X11_closeClaim d Q 2 12 (rS v) 11 [(0, .ref (gX E + 0)), (1, .int x1)] [] := by
  refine g_aload_n 0 dX11_closeClaim_11 rfl ?_
  refine g_aload_n 0 dX11_closeClaim_12 rfl ?_
  refine r_get (.ref (gX E + 1)) f_X11_10_X11 rfl (by decide : kd 0 = (0, 8)) (show 0 < 572 by decide) dX11_closeClaim_13 (fun _ => rfl) ?_
  refine g_iload_n 1 dX11_closeClaim_16 rfl ?_
  obtain ⟨h2, hp⟩ := hp
  refine g_callV (rest := [.ref (gX E + 0)]) s_X11_81_X1 rfl (c_X1_removePaidClaim (E := E) (d := d - 1) 1 isBk_1 (by omega) x1 v h2) (kbz isBk_1) (lt_b0 isBk_1) rfl rfl (Nat.le_of_ble_eq_true rfl) (by omega) (by decide) (by decide) dX11_closeClaim_17 (adTI (fun sr3 h4 => ?_)) (axTI (fun e h4 => g_outs rfl rfl (qe (P := gqTIV Q) h4 hQ)))
  have hQ := ql (P := gqTIV Q) h4 hQ
  have hp := hp sr3 h4
  refine g_lv (lv' := []) [] rfl ?_
  exact w_X11_closeClaim_20  hd    sr3 (f_X1_removePaidClaim 1 x1 v).2 hp hQ
def f_X11_closeClaim_0  (x1 : Int32) (v : gV) : (Int32 ⊕ String) × gV := f_X11_closeClaim_11  x1 (f_X3_prepare 1 v)
def p_X11_closeClaim_0  (x1 : Int32) (v : gV) : Prop := (p_X3_prepare 1 v) ∧ (p_X11_closeClaim_11   x1 (f_X3_prepare 1 v))
set_option maxHeartbeats 4000000 in
set_option maxRecDepth 100000 in
theorem w_X11_closeClaim_0 {E : gE} {d : Nat} {Q : gO → gS → Prop}   (hd : 9 ≤ d) (x1 : Int32) (v : gV) (hp : p_X11_closeClaim_0   x1 v) (hQ : gqTIV Q (f_X11_closeClaim_0  x1 v)) : gG E m_X11_closeClaim d Q 2 12 (rS v) 0 [(0, .ref (gX E + 0)), (1, .int x1)] [] := by
  refine g_aload_n 0 dX11_closeClaim_0 rfl ?_
  refine r_get (.ref (gX E + 101)) f_X11_22_X11 rfl (by decide : kd 0 = (0, 8)) (show 0 < 572 by decide) dX11_closeClaim_1 (fun _ => rfl) ?_
  refine g_aload_n 0 dX11_closeClaim_4 rfl ?_
  refine r_get (.ref (gX E + 1)) f_X11_10_X11 rfl (by decide : kd 0 = (0, 8)) (show 0 < 572 by decide) dX11_closeClaim_5 (fun _ => rfl) ?_
  obtain ⟨h1, hp⟩ := hp
  refine g_callV (rest := []) s_X11_51_X3 rfl (c_X3_prepare (E := E) (d := d - 1) 1 isBk_1 (by omega)  v h1) (by decide : kd 101 = (0, 2)) (show 101 < 572 by decide) rfl rfl (Nat.le_of_ble_eq_true rfl) (by omega) (by decide) (by decide) dX11_closeClaim_8 (adN ?_) axN
  exact w_X11_closeClaim_11  hd    x1 (f_X3_prepare 1 v) hp hQ
def f_X11_closeClaim  (x1 : Int32) (v : gV) : (Int32 ⊕ String) × gV := f_X11_closeClaim_0 x1 v
def p_X11_closeClaim  (x1 : Int32) (v : gV) : Prop := p_X11_closeClaim_0 x1 v
theorem c_X11_closeClaim {E : gE} {d : Nat}   (hd : 9 ≤ d) (x1 : Int32) (v : gV) (hp : p_X11_closeClaim x1 v) : CT E m_X11_closeClaim d 2 12 [.ref (gX E + 0), .int x1] (rS v) (Cq (gOi (f_X11_closeClaim x1 v).1) (f_X11_closeClaim x1 v).2) := CT.of ok_X11_closeClaim rfl (Nat.le_of_ble_eq_true rfl) (w_X11_closeClaim_0  hd x1 v hp ⟨rfl, rfl⟩)
def f_X11_withdrawClaim_23  (s0 : Int32) (v : gV) : (Int32 ⊕ String) × gV := (Sum.inl s0, v)
def p_X11_withdrawClaim_23  (s0 : Int32) (v : gV) : Prop := True
set_option maxHeartbeats 4000000 in
set_option maxRecDepth 100000 in
theorem w_X11_withdrawClaim_23 {E : gE} {d : Nat} {Q : gO → gS → Prop}   (hd : 9 ≤ d) (s0 : Int32) (v : gV) (hp : p_X11_withdrawClaim_23   s0 v) (hQ : gqTIV Q (f_X11_withdrawClaim_23  s0 v)) : gG E m_X11_withdrawClaim d Q 0 0 (rS v) 23 [] [.int s0] := by
  exact g_iret rfl dX11_withdrawClaim_23 hQ
def f_X11_withdrawClaim_20  (s0 : Int32) (v : gV) : (Int32 ⊕ String) × gV := f_X11_withdrawClaim_23  ((f_X11_changed s0 v).1) (f_X11_changed s0 v).2
def p_X11_withdrawClaim_20  (s0 : Int32) (v : gV) : Prop := (p_X11_changed s0 v) ∧ (p_X11_withdrawClaim_23   ((f_X11_changed s0 v).1) (f_X11_changed s0 v).2)
set_option maxHeartbeats 4000000 in
set_option maxRecDepth 100000 in
theorem w_X11_withdrawClaim_20 {E : gE} {d : Nat} {Q : gO → gS → Prop}   (hd : 9 ≤ d) (s0 : Int32) (v : gV) (hp : p_X11_withdrawClaim_20   s0 v) (hQ : gqTIV Q (f_X11_withdrawClaim_20  s0 v)) : gG E m_X11_withdrawClaim d Q 0 0 (rS v) 20 [] [.int s0, .ref (gX E + 0)] := by
  obtain ⟨h5, hp⟩ := hp
  refine g_callV (rest := []) s_X11_59_X11 rfl (c_X11_changed (E := E) (d := d - 1)   (by omega) s0 v h5) (by decide : kd 0 = (0, 8)) (show 0 < 572 by decide) rfl rfl (Nat.le_of_ble_eq_true rfl) (by omega) (by decide) (by decide) dX11_withdrawClaim_20 (adV ?_) axN
  exact w_X11_withdrawClaim_23  hd    ((f_X11_changed s0 v).1) (f_X11_changed s0 v).2 hp hQ
def f_X11_withdrawClaim_11  (x1 : Int32) (v : gV) : (Int32 ⊕ String) × gV := Sum.elim (fun (sr3 : Int32) => f_X11_withdrawClaim_20  sr3 (f_X1_removeUnpaidClaim 1 x1 v).2) (fun (e : String) => (Sum.inr e, (f_X1_removeUnpaidClaim 1 x1 v).2)) (f_X1_removeUnpaidClaim 1 x1 v).1
def p_X11_withdrawClaim_11  (x1 : Int32) (v : gV) : Prop := (p_X1_removeUnpaidClaim 1 x1 v) ∧ (∀ (sr3 : Int32), (f_X1_removeUnpaidClaim 1 x1 v).1 = Sum.inl sr3 → (p_X11_withdrawClaim_20   sr3 (f_X1_removeUnpaidClaim 1 x1 v).2))
set_option maxHeartbeats 4000000 in
set_option maxRecDepth 100000 in
theorem w_X11_withdrawClaim_11 {E : gE} {d : Nat} {Q : gO → gS → Prop}   (hd : 9 ≤ d) (x1 : Int32) (v : gV) (hp : p_X11_withdrawClaim_11   x1 v) (hQ : gqTIV Q (f_X11_withdrawClaim_11  x1 v)) : gG E m_X11_withdrawClaim d Q 2 12 (rS v) 11 [(0, .ref (gX E + 0)), (1, .int x1)] [] := by
  refine g_aload_n 0 dX11_withdrawClaim_11 rfl ?_
  refine g_aload_n 0 dX11_withdrawClaim_12 rfl ?_
  refine r_get (.ref (gX E + 1)) f_X11_10_X11 rfl (by decide : kd 0 = (0, 8)) (show 0 < 572 by decide) dX11_withdrawClaim_13 (fun _ => rfl) ?_
  refine g_iload_n 1 dX11_withdrawClaim_16 rfl ?_
  obtain ⟨h2, hp⟩ := hp
  refine g_callV (rest := [.ref (gX E + 0)]) s_X11_84_X1 rfl (c_X1_removeUnpaidClaim (E := E) (d := d - 1) 1 isBk_1 (by omega) x1 v h2) (kbz isBk_1) (lt_b0 isBk_1) rfl rfl (Nat.le_of_ble_eq_true rfl) (by omega) (by decide) (by decide) dX11_withdrawClaim_17 (adTI (fun sr3 h4 => ?_)) (axTI (fun e h4 => g_outs rfl rfl (qe (P := gqTIV Q) h4 hQ)))
  have hQ := ql (P := gqTIV Q) h4 hQ
  have hp := hp sr3 h4
  refine g_lv (lv' := []) [] rfl ?_
  exact w_X11_withdrawClaim_20  hd    sr3 (f_X1_removeUnpaidClaim 1 x1 v).2 hp hQ
def f_X11_withdrawClaim_0  (x1 : Int32) (v : gV) : (Int32 ⊕ String) × gV := f_X11_withdrawClaim_11  x1 (f_X3_prepare 1 v)
def p_X11_withdrawClaim_0  (x1 : Int32) (v : gV) : Prop := (p_X3_prepare 1 v) ∧ (p_X11_withdrawClaim_11   x1 (f_X3_prepare 1 v))
set_option maxHeartbeats 4000000 in
set_option maxRecDepth 100000 in
theorem w_X11_withdrawClaim_0 {E : gE} {d : Nat} {Q : gO → gS → Prop}   (hd : 9 ≤ d) (x1 : Int32) (v : gV) (hp : p_X11_withdrawClaim_0   x1 v) (hQ : gqTIV Q (f_X11_withdrawClaim_0  x1 v)) : gG E m_X11_withdrawClaim d Q 2 12 (rS v) 0 [(0, .ref (gX E + 0)), (1, .int x1)] [] := by
  refine g_aload_n 0 dX11_withdrawClaim_0 rfl ?_
  refine r_get (.ref (gX E + 101)) f_X11_22_X11 rfl (by decide : kd 0 = (0, 8)) (show 0 < 572 by decide) dX11_withdrawClaim_1 (fun _ => rfl) ?_
  refine g_aload_n 0 dX11_withdrawClaim_4 rfl ?_
  refine r_get (.ref (gX E + 1)) f_X11_10_X11 rfl (by decide : kd 0 = (0, 8)) (show 0 < 572 by decide) dX11_withdrawClaim_5 (fun _ => rfl) ?_
  obtain ⟨h1, hp⟩ := hp
  refine g_callV (rest := []) s_X11_51_X3 rfl (c_X3_prepare (E := E) (d := d - 1) 1 isBk_1 (by omega)  v h1) (by decide : kd 101 = (0, 2)) (show 101 < 572 by decide) rfl rfl (Nat.le_of_ble_eq_true rfl) (by omega) (by decide) (by decide) dX11_withdrawClaim_8 (adN ?_) axN
  exact w_X11_withdrawClaim_11  hd    x1 (f_X3_prepare 1 v) hp hQ
def f_X11_withdrawClaim  (x1 : Int32) (v : gV) : (Int32 ⊕ String) × gV := f_X11_withdrawClaim_0 x1 v
def p_X11_withdrawClaim  (x1 : Int32) (v : gV) : Prop := p_X11_withdrawClaim_0 x1 v
theorem c_X11_withdrawClaim {E : gE} {d : Nat}   (hd : 9 ≤ d) (x1 : Int32) (v : gV) (hp : p_X11_withdrawClaim x1 v) : CT E m_X11_withdrawClaim d 2 12 [.ref (gX E + 0), .int x1] (rS v) (Cq (gOi (f_X11_withdrawClaim x1 v).1) (f_X11_withdrawClaim x1 v).2) := CT.of ok_X11_withdrawClaim rfl (Nat.le_of_ble_eq_true rfl) (w_X11_withdrawClaim_0  hd x1 v hp ⟨rfl, rfl⟩)
def f_X11_addOffer_28  (s0 : Int32) (v : gV) : (Int32 ⊕ String) × gV := (Sum.inl s0, v)
def p_X11_addOffer_28  (s0 : Int32) (v : gV) : Prop := True
set_option maxHeartbeats 4000000 in
set_option maxRecDepth 100000 in
theorem w_X11_addOffer_28 {E : gE} {d : Nat} {Q : gO → gS → Prop}   (hd : 9 ≤ d) (s0 : Int32) (v : gV) (hp : p_X11_addOffer_28   s0 v) (hQ : gqTIV Q (f_X11_addOffer_28  s0 v)) : gG E m_X11_addOffer d Q 0 0 (rS v) 28 [] [.int s0] := by
  exact g_iret rfl dX11_addOffer_28 hQ
def f_X11_addOffer_25  (s0 : Int32) (v : gV) : (Int32 ⊕ String) × gV := f_X11_addOffer_28  ((f_X11_changed s0 v).1) (f_X11_changed s0 v).2
def p_X11_addOffer_25  (s0 : Int32) (v : gV) : Prop := (p_X11_changed s0 v) ∧ (p_X11_addOffer_28   ((f_X11_changed s0 v).1) (f_X11_changed s0 v).2)
set_option maxHeartbeats 4000000 in
set_option maxRecDepth 100000 in
theorem w_X11_addOffer_25 {E : gE} {d : Nat} {Q : gO → gS → Prop}   (hd : 9 ≤ d) (s0 : Int32) (v : gV) (hp : p_X11_addOffer_25   s0 v) (hQ : gqTIV Q (f_X11_addOffer_25  s0 v)) : gG E m_X11_addOffer d Q 0 0 (rS v) 25 [] [.int s0, .ref (gX E + 0)] := by
  obtain ⟨h5, hp⟩ := hp
  refine g_callV (rest := []) s_X11_59_X11 rfl (c_X11_changed (E := E) (d := d - 1)   (by omega) s0 v h5) (by decide : kd 0 = (0, 8)) (show 0 < 572 by decide) rfl rfl (Nat.le_of_ble_eq_true rfl) (by omega) (by decide) (by decide) dX11_addOffer_25 (adV ?_) axN
  exact w_X11_addOffer_28  hd    ((f_X11_changed s0 v).1) (f_X11_changed s0 v).2 hp hQ
def f_X11_addOffer_11  (x1 : Int32) (x2 : Int32) (x3 : Int32) (v : gV) : (Int32 ⊕ String) × gV := Sum.elim (fun (sr3 : Int32) => f_X11_addOffer_25  sr3 (f_X4_add 1 x1 x2 x3 v).2) (fun (e : String) => (Sum.inr e, (f_X4_add 1 x1 x2 x3 v).2)) (f_X4_add 1 x1 x2 x3 v).1
def p_X11_addOffer_11  (x1 : Int32) (x2 : Int32) (x3 : Int32) (v : gV) : Prop := (p_X4_add 1 x1 x2 x3 v) ∧ (∀ (sr3 : Int32), (f_X4_add 1 x1 x2 x3 v).1 = Sum.inl sr3 → (p_X11_addOffer_25   sr3 (f_X4_add 1 x1 x2 x3 v).2))
set_option maxHeartbeats 4000000 in
set_option maxRecDepth 100000 in
theorem w_X11_addOffer_11 {E : gE} {d : Nat} {Q : gO → gS → Prop}   (hd : 9 ≤ d) (x1 : Int32) (x2 : Int32) (x3 : Int32) (v : gV) (hp : p_X11_addOffer_11   x1 x2 x3 v) (hQ : gqTIV Q (f_X11_addOffer_11  x1 x2 x3 v)) : gG E m_X11_addOffer d Q 4 24 (rS v) 11 [(0, .ref (gX E + 0)), (1, .int x1), (2, .int x2), (3, .int x3)] [] := by
  refine g_aload_n 0 dX11_addOffer_11 rfl ?_
  refine g_aload_n 0 dX11_addOffer_12 rfl ?_
  refine r_get (.ref (gX E + 1)) f_X11_10_X11 rfl (by decide : kd 0 = (0, 8)) (show 0 < 572 by decide) dX11_addOffer_13 (fun _ => rfl) ?_
  refine r_get (.ref (gX E + (1 + 45))) f_X11_87_X1 rfl (kbz isBk_1) (lt_b0 isBk_1) dX11_addOffer_16 (fun _ => rfl) ?_
  refine g_iload_n 1 dX11_addOffer_19 rfl ?_
  refine g_iload_n 2 dX11_addOffer_20 rfl ?_
  refine g_iload_n 3 dX11_addOffer_21 rfl ?_
  obtain ⟨h2, hp⟩ := hp
  refine g_callV (rest := [.ref (gX E + 0)]) s_X11_91_X4 rfl (c_X4_add (E := E) (d := d - 1) 1 isBk_1 (by omega) x1 x2 x3 v h2) (kb_45 isBk_1) (lt_b isBk_1 (by decide)) rfl rfl (Nat.le_of_ble_eq_true rfl) (by omega) (by decide) (by decide) dX11_addOffer_22 (adTI (fun sr3 h4 => ?_)) (axTI (fun e h4 => g_outs rfl rfl (qe (P := gqTIV Q) h4 hQ)))
  have hQ := ql (P := gqTIV Q) h4 hQ
  have hp := hp sr3 h4
  refine g_lv (lv' := []) [] rfl ?_
  exact w_X11_addOffer_25  hd    sr3 (f_X4_add 1 x1 x2 x3 v).2 hp hQ
def f_X11_addOffer_0  (x1 : Int32) (x2 : Int32) (x3 : Int32) (v : gV) : (Int32 ⊕ String) × gV := f_X11_addOffer_11  x1 x2 x3 (f_X3_prepare 1 v)
def p_X11_addOffer_0  (x1 : Int32) (x2 : Int32) (x3 : Int32) (v : gV) : Prop := (p_X3_prepare 1 v) ∧ (p_X11_addOffer_11   x1 x2 x3 (f_X3_prepare 1 v))
set_option maxHeartbeats 4000000 in
set_option maxRecDepth 100000 in
theorem w_X11_addOffer_0 {E : gE} {d : Nat} {Q : gO → gS → Prop}   (hd : 9 ≤ d) (x1 : Int32) (x2 : Int32) (x3 : Int32) (v : gV) (hp : p_X11_addOffer_0   x1 x2 x3 v) (hQ : gqTIV Q (f_X11_addOffer_0  x1 x2 x3 v)) : gG E m_X11_addOffer d Q 4 24 (rS v) 0 [(0, .ref (gX E + 0)), (1, .int x1), (2, .int x2), (3, .int x3)] [] := by
  refine g_aload_n 0 dX11_addOffer_0 rfl ?_
  refine r_get (.ref (gX E + 101)) f_X11_22_X11 rfl (by decide : kd 0 = (0, 8)) (show 0 < 572 by decide) dX11_addOffer_1 (fun _ => rfl) ?_
  refine g_aload_n 0 dX11_addOffer_4 rfl ?_
  refine r_get (.ref (gX E + 1)) f_X11_10_X11 rfl (by decide : kd 0 = (0, 8)) (show 0 < 572 by decide) dX11_addOffer_5 (fun _ => rfl) ?_
  obtain ⟨h1, hp⟩ := hp
  refine g_callV (rest := []) s_X11_51_X3 rfl (c_X3_prepare (E := E) (d := d - 1) 1 isBk_1 (by omega)  v h1) (by decide : kd 101 = (0, 2)) (show 101 < 572 by decide) rfl rfl (Nat.le_of_ble_eq_true rfl) (by omega) (by decide) (by decide) dX11_addOffer_8 (adN ?_) axN
  exact w_X11_addOffer_11  hd    x1 x2 x3 (f_X3_prepare 1 v) hp hQ
def f_X11_addOffer  (x1 : Int32) (x2 : Int32) (x3 : Int32) (v : gV) : (Int32 ⊕ String) × gV := f_X11_addOffer_0 x1 x2 x3 v
def p_X11_addOffer  (x1 : Int32) (x2 : Int32) (x3 : Int32) (v : gV) : Prop := p_X11_addOffer_0 x1 x2 x3 v
theorem c_X11_addOffer {E : gE} {d : Nat}   (hd : 9 ≤ d) (x1 : Int32) (x2 : Int32) (x3 : Int32) (v : gV) (hp : p_X11_addOffer x1 x2 x3 v) : CT E m_X11_addOffer d 4 24 [.ref (gX E + 0), .int x1, .int x2, .int x3] (rS v) (Cq (gOi (f_X11_addOffer x1 x2 x3 v).1) (f_X11_addOffer x1 x2 x3 v).2) := CT.of ok_X11_addOffer rfl (Nat.le_of_ble_eq_true rfl) (w_X11_addOffer_0  hd x1 x2 x3 v hp ⟨rfl, rfl⟩)
def f_X11_dropOffer_26  (s0 : Int32) (v : gV) : (Int32 ⊕ String) × gV := (Sum.inl s0, v)
def p_X11_dropOffer_26  (s0 : Int32) (v : gV) : Prop := True
set_option maxHeartbeats 4000000 in
set_option maxRecDepth 100000 in
theorem w_X11_dropOffer_26 {E : gE} {d : Nat} {Q : gO → gS → Prop}   (hd : 9 ≤ d) (s0 : Int32) (v : gV) (hp : p_X11_dropOffer_26   s0 v) (hQ : gqTIV Q (f_X11_dropOffer_26  s0 v)) : gG E m_X11_dropOffer d Q 0 0 (rS v) 26 [] [.int s0] := by
  exact g_iret rfl dX11_dropOffer_26 hQ
def f_X11_dropOffer_23  (s0 : Int32) (v : gV) : (Int32 ⊕ String) × gV := f_X11_dropOffer_26  ((f_X11_changed s0 v).1) (f_X11_changed s0 v).2
def p_X11_dropOffer_23  (s0 : Int32) (v : gV) : Prop := (p_X11_changed s0 v) ∧ (p_X11_dropOffer_26   ((f_X11_changed s0 v).1) (f_X11_changed s0 v).2)
set_option maxHeartbeats 4000000 in
set_option maxRecDepth 100000 in
theorem w_X11_dropOffer_23 {E : gE} {d : Nat} {Q : gO → gS → Prop}   (hd : 9 ≤ d) (s0 : Int32) (v : gV) (hp : p_X11_dropOffer_23   s0 v) (hQ : gqTIV Q (f_X11_dropOffer_23  s0 v)) : gG E m_X11_dropOffer d Q 0 0 (rS v) 23 [] [.int s0, .ref (gX E + 0)] := by
  obtain ⟨h5, hp⟩ := hp
  refine g_callV (rest := []) s_X11_59_X11 rfl (c_X11_changed (E := E) (d := d - 1)   (by omega) s0 v h5) (by decide : kd 0 = (0, 8)) (show 0 < 572 by decide) rfl rfl (Nat.le_of_ble_eq_true rfl) (by omega) (by decide) (by decide) dX11_dropOffer_23 (adV ?_) axN
  exact w_X11_dropOffer_26  hd    ((f_X11_changed s0 v).1) (f_X11_changed s0 v).2 hp hQ
def f_X11_dropOffer_11  (x1 : Int32) (v : gV) : (Int32 ⊕ String) × gV := Sum.elim (fun (sr3 : Int32) => f_X11_dropOffer_23  sr3 (f_X4_remove 1 x1 v).2) (fun (e : String) => (Sum.inr e, (f_X4_remove 1 x1 v).2)) (f_X4_remove 1 x1 v).1
def p_X11_dropOffer_11  (x1 : Int32) (v : gV) : Prop := (p_X4_remove 1 x1 v) ∧ (∀ (sr3 : Int32), (f_X4_remove 1 x1 v).1 = Sum.inl sr3 → (p_X11_dropOffer_23   sr3 (f_X4_remove 1 x1 v).2))
set_option maxHeartbeats 4000000 in
set_option maxRecDepth 100000 in
theorem w_X11_dropOffer_11 {E : gE} {d : Nat} {Q : gO → gS → Prop}   (hd : 9 ≤ d) (x1 : Int32) (v : gV) (hp : p_X11_dropOffer_11   x1 v) (hQ : gqTIV Q (f_X11_dropOffer_11  x1 v)) : gG E m_X11_dropOffer d Q 1 6 (rS v) 11 [(0, .ref (gX E + 0)), (1, .int x1)] [] := by
  refine g_aload_n 0 dX11_dropOffer_11 rfl ?_
  refine g_aload_n 0 dX11_dropOffer_12 rfl ?_
  refine r_get (.ref (gX E + 1)) f_X11_10_X11 rfl (by decide : kd 0 = (0, 8)) (show 0 < 572 by decide) dX11_dropOffer_13 (fun _ => rfl) ?_
  refine r_get (.ref (gX E + (1 + 45))) f_X11_87_X1 rfl (kbz isBk_1) (lt_b0 isBk_1) dX11_dropOffer_16 (fun _ => rfl) ?_
  refine g_iload_n 1 dX11_dropOffer_19 rfl ?_
  obtain ⟨h2, hp⟩ := hp
  refine g_callV (rest := [.ref (gX E + 0)]) s_X11_96_X4 rfl (c_X4_remove (E := E) (d := d - 1) 1 isBk_1 (by omega) x1 v h2) (kb_45 isBk_1) (lt_b isBk_1 (by decide)) rfl rfl (Nat.le_of_ble_eq_true rfl) (by omega) (by decide) (by decide) dX11_dropOffer_20 (adTI (fun sr3 h4 => ?_)) (axTI (fun e h4 => g_outs rfl rfl (qe (P := gqTIV Q) h4 hQ)))
  have hQ := ql (P := gqTIV Q) h4 hQ
  have hp := hp sr3 h4
  refine g_lv (lv' := []) [] rfl ?_
  exact w_X11_dropOffer_23  hd    sr3 (f_X4_remove 1 x1 v).2 hp hQ
def f_X11_dropOffer_0  (x1 : Int32) (v : gV) : (Int32 ⊕ String) × gV := f_X11_dropOffer_11  x1 (f_X3_prepare 1 v)
def p_X11_dropOffer_0  (x1 : Int32) (v : gV) : Prop := (p_X3_prepare 1 v) ∧ (p_X11_dropOffer_11   x1 (f_X3_prepare 1 v))
set_option maxHeartbeats 4000000 in
set_option maxRecDepth 100000 in
theorem w_X11_dropOffer_0 {E : gE} {d : Nat} {Q : gO → gS → Prop}   (hd : 9 ≤ d) (x1 : Int32) (v : gV) (hp : p_X11_dropOffer_0   x1 v) (hQ : gqTIV Q (f_X11_dropOffer_0  x1 v)) : gG E m_X11_dropOffer d Q 1 6 (rS v) 0 [(0, .ref (gX E + 0)), (1, .int x1)] [] := by
  refine g_aload_n 0 dX11_dropOffer_0 rfl ?_
  refine r_get (.ref (gX E + 101)) f_X11_22_X11 rfl (by decide : kd 0 = (0, 8)) (show 0 < 572 by decide) dX11_dropOffer_1 (fun _ => rfl) ?_
  refine g_aload_n 0 dX11_dropOffer_4 rfl ?_
  refine r_get (.ref (gX E + 1)) f_X11_10_X11 rfl (by decide : kd 0 = (0, 8)) (show 0 < 572 by decide) dX11_dropOffer_5 (fun _ => rfl) ?_
  obtain ⟨h1, hp⟩ := hp
  refine g_callV (rest := []) s_X11_51_X3 rfl (c_X3_prepare (E := E) (d := d - 1) 1 isBk_1 (by omega)  v h1) (by decide : kd 101 = (0, 2)) (show 101 < 572 by decide) rfl rfl (Nat.le_of_ble_eq_true rfl) (by omega) (by decide) (by decide) dX11_dropOffer_8 (adN ?_) axN
  exact w_X11_dropOffer_11  hd    x1 (f_X3_prepare 1 v) hp hQ
def f_X11_dropOffer  (x1 : Int32) (v : gV) : (Int32 ⊕ String) × gV := f_X11_dropOffer_0 x1 v
def p_X11_dropOffer  (x1 : Int32) (v : gV) : Prop := p_X11_dropOffer_0 x1 v
theorem c_X11_dropOffer {E : gE} {d : Nat}   (hd : 9 ≤ d) (x1 : Int32) (v : gV) (hp : p_X11_dropOffer x1 v) : CT E m_X11_dropOffer d 1 6 [.ref (gX E + 0), .int x1] (rS v) (Cq (gOi (f_X11_dropOffer x1 v).1) (f_X11_dropOffer x1 v).2) := CT.of ok_X11_dropOffer rfl (Nat.le_of_ble_eq_true rfl) (w_X11_dropOffer_0  hd x1 v hp ⟨rfl, rfl⟩)
def f_X11_passDays_23  (s0 : Int32) (v : gV) : (Int32 ⊕ String) × gV := (Sum.inl s0, v)
def p_X11_passDays_23  (s0 : Int32) (v : gV) : Prop := True
set_option maxHeartbeats 4000000 in
set_option maxRecDepth 100000 in
theorem w_X11_passDays_23 {E : gE} {d : Nat} {Q : gO → gS → Prop}   (hd : 9 ≤ d) (s0 : Int32) (v : gV) (hp : p_X11_passDays_23   s0 v) (hQ : gqTIV Q (f_X11_passDays_23  s0 v)) : gG E m_X11_passDays d Q 0 0 (rS v) 23 [] [.int s0] := by
  exact g_iret rfl dX11_passDays_23 hQ
def f_X11_passDays_20  (s0 : Int32) (v : gV) : (Int32 ⊕ String) × gV := f_X11_passDays_23  ((f_X11_changed s0 v).1) (f_X11_changed s0 v).2
def p_X11_passDays_20  (s0 : Int32) (v : gV) : Prop := (p_X11_changed s0 v) ∧ (p_X11_passDays_23   ((f_X11_changed s0 v).1) (f_X11_changed s0 v).2)
set_option maxHeartbeats 4000000 in
set_option maxRecDepth 100000 in
theorem w_X11_passDays_20 {E : gE} {d : Nat} {Q : gO → gS → Prop}   (hd : 9 ≤ d) (s0 : Int32) (v : gV) (hp : p_X11_passDays_20   s0 v) (hQ : gqTIV Q (f_X11_passDays_20  s0 v)) : gG E m_X11_passDays d Q 0 0 (rS v) 20 [] [.int s0, .ref (gX E + 0)] := by
  obtain ⟨h5, hp⟩ := hp
  refine g_callV (rest := []) s_X11_59_X11 rfl (c_X11_changed (E := E) (d := d - 1)   (by omega) s0 v h5) (by decide : kd 0 = (0, 8)) (show 0 < 572 by decide) rfl rfl (Nat.le_of_ble_eq_true rfl) (by omega) (by decide) (by decide) dX11_passDays_20 (adV ?_) axN
  exact w_X11_passDays_23  hd    ((f_X11_changed s0 v).1) (f_X11_changed s0 v).2 hp hQ
def f_X11_passDays_11  (x1 : Int32) (v : gV) : (Int32 ⊕ String) × gV := Sum.elim (fun (sr3 : Int32) => f_X11_passDays_20  sr3 (f_X1_advance 1 x1 v).2) (fun (e : String) => (Sum.inr e, (f_X1_advance 1 x1 v).2)) (f_X1_advance 1 x1 v).1
def p_X11_passDays_11  (x1 : Int32) (v : gV) : Prop := (p_X1_advance 1 x1 v) ∧ (∀ (sr3 : Int32), (f_X1_advance 1 x1 v).1 = Sum.inl sr3 → (p_X11_passDays_20   sr3 (f_X1_advance 1 x1 v).2))
set_option maxHeartbeats 4000000 in
set_option maxRecDepth 100000 in
theorem w_X11_passDays_11 {E : gE} {d : Nat} {Q : gO → gS → Prop}   (hd : 9 ≤ d) (x1 : Int32) (v : gV) (hp : p_X11_passDays_11   x1 v) (hQ : gqTIV Q (f_X11_passDays_11  x1 v)) : gG E m_X11_passDays d Q 1 6 (rS v) 11 [(0, .ref (gX E + 0)), (1, .int x1)] [] := by
  refine g_aload_n 0 dX11_passDays_11 rfl ?_
  refine g_aload_n 0 dX11_passDays_12 rfl ?_
  refine r_get (.ref (gX E + 1)) f_X11_10_X11 rfl (by decide : kd 0 = (0, 8)) (show 0 < 572 by decide) dX11_passDays_13 (fun _ => rfl) ?_
  refine g_iload_n 1 dX11_passDays_16 rfl ?_
  obtain ⟨h2, hp⟩ := hp
  refine g_callV (rest := [.ref (gX E + 0)]) s_X11_99_X1 rfl (c_X1_advance (E := E) (d := d - 1) 1 isBk_1 (by omega) x1 v h2) (kbz isBk_1) (lt_b0 isBk_1) rfl rfl (Nat.le_of_ble_eq_true rfl) (by omega) (by decide) (by decide) dX11_passDays_17 (adTI (fun sr3 h4 => ?_)) (axTI (fun e h4 => g_outs rfl rfl (qe (P := gqTIV Q) h4 hQ)))
  have hQ := ql (P := gqTIV Q) h4 hQ
  have hp := hp sr3 h4
  refine g_lv (lv' := []) [] rfl ?_
  exact w_X11_passDays_20  hd    sr3 (f_X1_advance 1 x1 v).2 hp hQ
def f_X11_passDays_0  (x1 : Int32) (v : gV) : (Int32 ⊕ String) × gV := f_X11_passDays_11  x1 (f_X3_prepare 1 v)
def p_X11_passDays_0  (x1 : Int32) (v : gV) : Prop := (p_X3_prepare 1 v) ∧ (p_X11_passDays_11   x1 (f_X3_prepare 1 v))
set_option maxHeartbeats 4000000 in
set_option maxRecDepth 100000 in
theorem w_X11_passDays_0 {E : gE} {d : Nat} {Q : gO → gS → Prop}   (hd : 9 ≤ d) (x1 : Int32) (v : gV) (hp : p_X11_passDays_0   x1 v) (hQ : gqTIV Q (f_X11_passDays_0  x1 v)) : gG E m_X11_passDays d Q 1 6 (rS v) 0 [(0, .ref (gX E + 0)), (1, .int x1)] [] := by
  refine g_aload_n 0 dX11_passDays_0 rfl ?_
  refine r_get (.ref (gX E + 101)) f_X11_22_X11 rfl (by decide : kd 0 = (0, 8)) (show 0 < 572 by decide) dX11_passDays_1 (fun _ => rfl) ?_
  refine g_aload_n 0 dX11_passDays_4 rfl ?_
  refine r_get (.ref (gX E + 1)) f_X11_10_X11 rfl (by decide : kd 0 = (0, 8)) (show 0 < 572 by decide) dX11_passDays_5 (fun _ => rfl) ?_
  obtain ⟨h1, hp⟩ := hp
  refine g_callV (rest := []) s_X11_51_X3 rfl (c_X3_prepare (E := E) (d := d - 1) 1 isBk_1 (by omega)  v h1) (by decide : kd 101 = (0, 2)) (show 101 < 572 by decide) rfl rfl (Nat.le_of_ble_eq_true rfl) (by omega) (by decide) (by decide) dX11_passDays_8 (adN ?_) axN
  exact w_X11_passDays_11  hd    x1 (f_X3_prepare 1 v) hp hQ
def f_X11_passDays  (x1 : Int32) (v : gV) : (Int32 ⊕ String) × gV := f_X11_passDays_0 x1 v
def p_X11_passDays  (x1 : Int32) (v : gV) : Prop := p_X11_passDays_0 x1 v
theorem c_X11_passDays {E : gE} {d : Nat}   (hd : 9 ≤ d) (x1 : Int32) (v : gV) (hp : p_X11_passDays x1 v) : CT E m_X11_passDays d 1 6 [.ref (gX E + 0), .int x1] (rS v) (Cq (gOi (f_X11_passDays x1 v).1) (f_X11_passDays x1 v).2) := CT.of ok_X11_passDays rfl (Nat.le_of_ble_eq_true rfl) (w_X11_passDays_0  hd x1 v hp ⟨rfl, rfl⟩)
def f_X11_undo_11  (s0 : Int32) (v : gV) : (Int32 ⊕ String) × gV := (Sum.inl s0, v)
def p_X11_undo_11  (s0 : Int32) (v : gV) : Prop := True
set_option maxHeartbeats 4000000 in
set_option maxRecDepth 100000 in
theorem w_X11_undo_11 {E : gE} {d : Nat} {Q : gO → gS → Prop}   (hd : 8 ≤ d) (s0 : Int32) (v : gV) (hp : p_X11_undo_11   s0 v) (hQ : gqTIV Q (f_X11_undo_11  s0 v)) : gG E m_X11_undo d Q 0 0 (rS v) 11 [] [.int s0] := by
  exact g_iret rfl dX11_undo_11 hQ
def f_X11_undo_0   (v : gV) : (Int32 ⊕ String) × gV := Sum.elim (fun (sr2 : Int32) => f_X11_undo_11  sr2 (f_X3_stepBack 1 v).2) (fun (e : String) => (Sum.inr e, (f_X3_stepBack 1 v).2)) (f_X3_stepBack 1 v).1
def p_X11_undo_0   (v : gV) : Prop := (p_X3_stepBack 1 v) ∧ (∀ (sr2 : Int32), (f_X3_stepBack 1 v).1 = Sum.inl sr2 → (p_X11_undo_11   sr2 (f_X3_stepBack 1 v).2))
set_option maxHeartbeats 4000000 in
set_option maxRecDepth 100000 in
theorem w_X11_undo_0 {E : gE} {d : Nat} {Q : gO → gS → Prop}   (hd : 8 ≤ d)  (v : gV) (hp : p_X11_undo_0    v) (hQ : gqTIV Q (f_X11_undo_0   v)) : gG E m_X11_undo d Q 1 6 (rS v) 0 [(0, .ref (gX E + 0))] [] := by
  refine g_aload_n 0 dX11_undo_0 rfl ?_
  refine r_get (.ref (gX E + 101)) f_X11_22_X11 rfl (by decide : kd 0 = (0, 8)) (show 0 < 572 by decide) dX11_undo_1 (fun _ => rfl) ?_
  refine g_aload_n 0 dX11_undo_4 rfl ?_
  refine r_get (.ref (gX E + 1)) f_X11_10_X11 rfl (by decide : kd 0 = (0, 8)) (show 0 < 572 by decide) dX11_undo_5 (fun _ => rfl) ?_
  obtain ⟨h1, hp⟩ := hp
  refine g_callV (rest := []) s_X11_334_X3 rfl (c_X3_stepBack (E := E) (d := d - 1) 1 isBk_1 (by omega)  v h1) (by decide : kd 101 = (0, 2)) (show 101 < 572 by decide) rfl rfl (Nat.le_of_ble_eq_true rfl) (by omega) (by decide) (by decide) dX11_undo_8 (adTI (fun sr2 h3 => ?_)) (axTI (fun e h3 => g_outs rfl rfl (qe (P := gqTIV Q) h3 hQ)))
  have hQ := ql (P := gqTIV Q) h3 hQ
  have hp := hp sr2 h3
  refine g_lv (lv' := []) [] rfl ?_
  exact w_X11_undo_11  hd    sr2 (f_X3_stepBack 1 v).2 hp hQ
def f_X11_undo   (v : gV) : (Int32 ⊕ String) × gV := f_X11_undo_0  v
def p_X11_undo   (v : gV) : Prop := p_X11_undo_0  v
theorem c_X11_undo {E : gE} {d : Nat}   (hd : 8 ≤ d)  (v : gV) (hp : p_X11_undo  v) : CT E m_X11_undo d 1 6 [.ref (gX E + 0)] (rS v) (Cq (gOi (f_X11_undo  v).1) (f_X11_undo  v).2) := CT.of ok_X11_undo rfl (Nat.le_of_ble_eq_true rfl) (w_X11_undo_0  hd  v hp ⟨rfl, rfl⟩)
def f_L_projected_9   (v : gV) : Int32 × gV := ((0 : Int32), v)
def p_L_projected_9   (v : gV) : Prop := True
set_option maxHeartbeats 4000000 in
set_option maxRecDepth 100000 in
theorem w_L_projected_9 {E : gE} {d : Nat} {Q : gO → gS → Prop}   (hd : 9 ≤ d)  (v : gV) (hp : p_L_projected_9    v) (hQ : gqIV Q (f_L_projected_9   v)) : gG E m_L_projected d Q 0 0 (rS v) 9 [] [] := by
  refine g_goto 15 dL_projected_9 (by decide) ?_
  refine g_iconst dL_projected_15 (0 : Int32) (by decide) ?_
  exact g_iret rfl dL_projected_16 hQ
def f_L_projected_7  (s0 : Int32) (s1 : Int32) (v : gV) : Int32 × gV := f_L_projected_9   (vL v 570 s1.toNatClampNeg s0.toInt64)
def p_L_projected_7  (s0 : Int32) (s1 : Int32) (v : gV) : Prop := (vp_in s1 1) ∧ (p_L_projected_9    (vL v 570 s1.toNatClampNeg s0.toInt64))
set_option maxHeartbeats 4000000 in
set_option maxRecDepth 100000 in
theorem w_L_projected_7 {E : gE} {d : Nat} {Q : gO → gS → Prop}   (hd : 9 ≤ d) (s0 : Int32) (s1 : Int32) (v : gV) (hp : p_L_projected_7   s0 s1 v) (hQ : gqIV Q (f_L_projected_7  s0 s1 v)) : gG E m_L_projected d Q 0 0 (rS v) 7 [] [.int s0, .int s1, .ref (gX E + 570)] := by
  refine g_i2l dL_projected_7 ?_
  obtain ⟨h4, hp⟩ := hp
  refine r_last (by decide : kd 570 = (3, 1)) (show 570 < 572 by decide) h4 dL_projected_8 ?_
  exact w_L_projected_9  hd     (vL v 570 s1.toNatClampNeg s0.toInt64) hp hQ
def f_L_projected_0  (x1 : Int32) (v : gV) : Int32 × gV := Sum.elim (fun (sr2 : Int32) => f_L_projected_7  sr2 (0 : Int32) v) (fun (e : String) => if e = "java/lang/IllegalArgumentException" then (((1 : Int32), v)) else ((0, v))) (f_X11_projected x1 v)
def p_L_projected_0  (x1 : Int32) (v : gV) : Prop := (p_X11_projected x1 v) ∧ ((∀ (sr2 : Int32), (f_X11_projected x1 v) = Sum.inl sr2 → (p_L_projected_7   sr2 (0 : Int32) v)) ∧ (∀ (e : String), (f_X11_projected x1 v) = Sum.inr e → (((e = "java/lang/IllegalArgumentException") → (True)) ∧ (¬ (e = "java/lang/IllegalArgumentException") → (False)))))
set_option maxHeartbeats 4000000 in
set_option maxRecDepth 100000 in
theorem w_L_projected_0 {E : gE} {d : Nat} {Q : gO → gS → Prop}   (hd : 9 ≤ d) (x1 : Int32) (v : gV) (hp : p_L_projected_0   x1 v) (hQ : gqIV Q (f_L_projected_0  x1 v)) : gG E m_L_projected d Q 1 6 (rS v) 0 [(0, .ref (gX E + 0)), (1, .int x1), (2, .ref (gX E + 570))] [] := by
  refine g_aload_n 2 dL_projected_0 rfl ?_
  refine g_iconst dL_projected_1 (0 : Int32) (by decide) ?_
  refine g_aload_n 0 dL_projected_2 rfl ?_
  refine g_iload_n 1 dL_projected_3 rfl ?_
  obtain ⟨h1, hp⟩ := hp
  refine g_callV (rest := [.int ((0 : Int32)), .ref (gX E + 570)]) s_L_126_X11 rfl (c_X11_projected (E := E) (d := d - 1)   (by omega) x1 v h1) (by decide : kd 0 = (0, 8)) (show 0 < 572 by decide) rfl rfl (Nat.le_of_ble_eq_true rfl) (by omega) (by decide) (by decide) dL_projected_4 (adTI (fun sr2 h3 => ?_)) (axTI (fun e h3 => ?_))
  · have hQ := ql (P := gqIV Q) h3 hQ
    have hp := hp.1 sr2 h3
    refine g_lv (lv' := []) [] rfl ?_
    exact w_L_projected_7  hd    sr2 (0 : Int32) v hp hQ
  · have hQ := qe (P := gqIV Q) h3 hQ
    have hp := hp.2 e h3
    by_cases h5 : e = "java/lang/IllegalArgumentException"
    · have hQ := qp (P := gqIV Q) h5 hQ
      have hp := hp.1 h5
      subst h5
      refine g_catch2 [] (0, 9, 12, 13) [] rfl (fun z hz => absurd hz List.not_mem_nil) (by decide) (by decide) w_722 w_753 (fun q => ?_)
      refine g_astore_n [(3, .ref q), (0, .ref (gX E + 0)), (1, .int x1), (2, .ref (gX E + 570))] dL_projected_12 rfl (by decide) rfl ?_
      refine g_iconst dL_projected_13 (1 : Int32) (by decide) ?_
      exact g_iret rfl dL_projected_14 hQ
    have hQ := qn (P := gqIV Q) h5 hQ
    have hp := hp.2 h5
    exact hp.elim
def f_L_projected  (x1 : Int32) (v : gV) : Int32 × gV := f_L_projected_0 x1 v
def p_L_projected  (x1 : Int32) (v : gV) : Prop := p_L_projected_0 x1 v
theorem c_L_projected {E : gE} {d : Nat}   (hd : 9 ≤ d) (x1 : Int32) (v : gV) (hp : p_L_projected x1 v) : CT E m_L_projected d 1 6 [.ref (gX E + 0), .int x1, .ref (gX E + 570)] (rS v) (Cq (.inl (some (.int ((f_L_projected x1 v).1)))) (f_L_projected x1 v).2) := CT.ofH ok_L_projected rfl (Nat.le_of_ble_eq_true rfl) (w_L_projected_0  hd x1 v hp ⟨rfl, rfl⟩)
def f_X9_projectBackwards_0 (b : Nat) (x1 : Int32) (x2 : Int32) (v : gV) : Int32 := (f_X9_valueAt b x1 (5 : Int32) x2 v).toInt32
def p_X9_projectBackwards_0 (b : Nat) (x1 : Int32) (x2 : Int32) (v : gV) : Prop := (p_X9_valueAt b x1 (5 : Int32) x2 v) ∧ (True)
set_option maxHeartbeats 4000000 in
set_option maxRecDepth 100000 in
theorem w_X9_projectBackwards_0 {E : gE} {d : Nat} {Q : gO → gS → Prop} (b : Nat) (hb : isBk b) (hd : 12 ≤ d) (x1 : Int32) (x2 : Int32) (v : gV) (hp : p_X9_projectBackwards_0 b   x1 x2 v) (hQ : gqI Q v (f_X9_projectBackwards_0 b  x1 x2 v)) : gG E m_X9_projectBackwards d Q 0 0 (rS v) 0 [(0, .ref (gX E + (b + 37))), (1, .int x1), (2, .int x2)] [] := by
  refine g_aload_n 0 dX9_projectBackwards_0 rfl ?_
  refine g_iload_n 1 dX9_projectBackwards_1 rfl ?_
  refine g_iconst dX9_projectBackwards_2 (5 : Int32) (by decide) ?_
  refine g_iload_n 2 dX9_projectBackwards_3 rfl ?_
  obtain ⟨h1, hp⟩ := hp
  refine g_callS (rest := []) s_X9_28 rfl (c_X9_valueAt (E := E) (d := d - 1) b hb (by omega) x1 (5 : Int32) x2 v h1) rfl rfl (Nat.le_of_ble_eq_true rfl) (by omega) (by decide) (by decide) dX9_projectBackwards_4 (adV ?_) axN
  refine g_l2i dX9_projectBackwards_7 ?_
  exact g_iret rfl dX9_projectBackwards_8 hQ
def f_X9_projectBackwards (b : Nat) (x1 : Int32) (x2 : Int32) (v : gV) : Int32 := f_X9_projectBackwards_0 b x1 x2 v
def p_X9_projectBackwards (b : Nat) (x1 : Int32) (x2 : Int32) (v : gV) : Prop := p_X9_projectBackwards_0 b x1 x2 v
theorem c_X9_projectBackwards {E : gE} {d : Nat} (b : Nat) (hb : isBk b) (hd : 12 ≤ d) (x1 : Int32) (x2 : Int32) (v : gV) (hp : p_X9_projectBackwards b x1 x2 v) : CT E m_X9_projectBackwards d 0 0 [.ref (gX E + (b + 37)), .int x1, .int x2] (rS v) (Cq (.inl (some (.int (f_X9_projectBackwards b x1 x2 v)))) v) := CT.of ok_X9_projectBackwards rfl (Nat.le_of_ble_eq_true rfl) (w_X9_projectBackwards_0 b hb hd x1 x2 v hp ⟨rfl, rfl⟩)
def f_X11_projectedByRecursion_21  (x2 : Int32) (s0 : Int32) (v : gV) : Int32 ⊕ String := Sum.inl (f_X9_projectBackwards 1 s0 x2 v)
def p_X11_projectedByRecursion_21  (x2 : Int32) (s0 : Int32) (v : gV) : Prop := (p_X9_projectBackwards 1 s0 x2 v) ∧ (True)
set_option maxHeartbeats 4000000 in
set_option maxRecDepth 100000 in
theorem w_X11_projectedByRecursion_21 {E : gE} {d : Nat} {Q : gO → gS → Prop}   (hd : 13 ≤ d) (x2 : Int32) (s0 : Int32) (v : gV) (hp : p_X11_projectedByRecursion_21   x2 s0 v) (hQ : gqTI Q v (f_X11_projectedByRecursion_21  x2 s0 v)) : gG E m_X11_projectedByRecursion d Q 0 0 (rS v) 21 [(2, .int x2)] [.int s0, .ref (gX E + (1 + 37))] := by
  refine g_iload_n 0 dX11_projectedByRecursion_21 rfl ?_
  obtain ⟨h5, hp⟩ := hp
  refine g_callV (rest := []) s_X11_232_X9 rfl (c_X9_projectBackwards (E := E) (d := d - 1) 1 isBk_1 (by omega) s0 x2 v h5) (kb_37 isBk_1) (lt_b isBk_1 (by decide)) rfl rfl (Nat.le_of_ble_eq_true rfl) (by omega) (by decide) (by decide) dX11_projectedByRecursion_22 (adV ?_) axN
  exact g_iret rfl dX11_projectedByRecursion_25 hQ
def f_X11_projectedByRecursion_0  (x1 : Int32) (v : gV) : Int32 ⊕ String := Sum.elim (fun (sr3 : Int32) => f_X11_projectedByRecursion_21  (f_X1_latestPeriod 1 v) sr3 v) (fun (e : String) => Sum.inr e) (f_X11_checkedNumber x1 (0 : Int32) (f_X1_latestPeriod 1 v) v)
def p_X11_projectedByRecursion_0  (x1 : Int32) (v : gV) : Prop := (p_X1_latestPeriod 1 v) ∧ ((p_X11_checkedNumber x1 (0 : Int32) (f_X1_latestPeriod 1 v) v) ∧ (∀ (sr3 : Int32), (f_X11_checkedNumber x1 (0 : Int32) (f_X1_latestPeriod 1 v) v) = Sum.inl sr3 → (p_X11_projectedByRecursion_21   (f_X1_latestPeriod 1 v) sr3 v)))
set_option maxHeartbeats 4000000 in
set_option maxRecDepth 100000 in
theorem w_X11_projectedByRecursion_0 {E : gE} {d : Nat} {Q : gO → gS → Prop}   (hd : 13 ≤ d) (x1 : Int32) (v : gV) (hp : p_X11_projectedByRecursion_0   x1 v) (hQ : gqTI Q v (f_X11_projectedByRecursion_0  x1 v)) : gG E m_X11_projectedByRecursion d Q 1 6 (rS v) 0 [(0, .ref (gX E + 0)), (1, .int x1)] [] := by
  refine g_aload_n 0 dX11_projectedByRecursion_0 rfl ?_
  refine r_get (.ref (gX E + 1)) f_X11_10_X11 rfl (by decide : kd 0 = (0, 8)) (show 0 < 572 by decide) dX11_projectedByRecursion_1 (fun _ => rfl) ?_
  obtain ⟨h1, hp⟩ := hp
  refine g_callV (rest := []) s_X11_225_X1 rfl (c_X1_latestPeriod (E := E) (d := d - 1) 1 isBk_1 (by omega)  v h1) (kbz isBk_1) (lt_b0 isBk_1) rfl rfl (Nat.le_of_ble_eq_true rfl) (by omega) (by decide) (by decide) dX11_projectedByRecursion_4 (adV ?_) axN
  refine g_istore_n [(2, .int ((f_X1_latestPeriod 1 v))), (0, .ref (gX E + 0)), (1, .int x1)] dX11_projectedByRecursion_7 rfl (by decide) rfl ?_
  refine g_aload_n 1 dX11_projectedByRecursion_8 rfl ?_
  refine r_get (.ref (gX E + 1)) f_X11_10_X11 rfl (by decide : kd 0 = (0, 8)) (show 0 < 572 by decide) dX11_projectedByRecursion_9 (fun _ => rfl) ?_
  refine r_get (.ref (gX E + (1 + 37))) f_X11_216_X1 rfl (kbz isBk_1) (lt_b0 isBk_1) dX11_projectedByRecursion_12 (fun _ => rfl) ?_
  refine g_iload_n 2 dX11_projectedByRecursion_15 rfl ?_
  refine g_iconst dX11_projectedByRecursion_16 (0 : Int32) (by decide) ?_
  refine g_iload_n 0 dX11_projectedByRecursion_17 rfl ?_
  obtain ⟨h2, hp⟩ := hp
  refine g_callS (rest := [.ref (gX E + (1 + 37))]) s_X11_190 rfl (c_X11_checkedNumber (E := E) (d := d - 1)   (by omega) x1 (0 : Int32) (f_X1_latestPeriod 1 v) v h2) rfl rfl (Nat.le_of_ble_eq_true rfl) (by omega) (by decide) (by decide) dX11_projectedByRecursion_18 (adTI (fun sr3 h4 => ?_)) (axTI (fun e h4 => g_outs rfl rfl (qe (P := gqTI Q v) h4 hQ)))
  have hQ := ql (P := gqTI Q v) h4 hQ
  have hp := hp sr3 h4
  refine g_lv (lv' := [(2, .int ((f_X1_latestPeriod 1 v)))]) [0] rfl ?_
  exact w_X11_projectedByRecursion_21  hd    (f_X1_latestPeriod 1 v) sr3 v hp hQ
def f_X11_projectedByRecursion  (x1 : Int32) (v : gV) : Int32 ⊕ String := f_X11_projectedByRecursion_0 x1 v
def p_X11_projectedByRecursion  (x1 : Int32) (v : gV) : Prop := p_X11_projectedByRecursion_0 x1 v
theorem c_X11_projectedByRecursion {E : gE} {d : Nat}   (hd : 13 ≤ d) (x1 : Int32) (v : gV) (hp : p_X11_projectedByRecursion x1 v) : CT E m_X11_projectedByRecursion d 1 6 [.ref (gX E + 0), .int x1] (rS v) (Cq (gOi (f_X11_projectedByRecursion x1 v)) v) := CT.of ok_X11_projectedByRecursion rfl (Nat.le_of_ble_eq_true rfl) (w_X11_projectedByRecursion_0  hd x1 v hp ⟨rfl, rfl⟩)
def f_L_projectedByRecursion_9   (v : gV) : Int32 × gV := ((0 : Int32), v)
def p_L_projectedByRecursion_9   (v : gV) : Prop := True
set_option maxHeartbeats 4000000 in
set_option maxRecDepth 100000 in
theorem w_L_projectedByRecursion_9 {E : gE} {d : Nat} {Q : gO → gS → Prop}   (hd : 14 ≤ d)  (v : gV) (hp : p_L_projectedByRecursion_9    v) (hQ : gqIV Q (f_L_projectedByRecursion_9   v)) : gG E m_L_projectedByRecursion d Q 0 0 (rS v) 9 [] [] := by
  refine g_goto 15 dL_projectedByRecursion_9 (by decide) ?_
  refine g_iconst dL_projectedByRecursion_15 (0 : Int32) (by decide) ?_
  exact g_iret rfl dL_projectedByRecursion_16 hQ
def f_L_projectedByRecursion_7  (s0 : Int32) (s1 : Int32) (v : gV) : Int32 × gV := f_L_projectedByRecursion_9   (vL v 570 s1.toNatClampNeg s0.toInt64)
def p_L_projectedByRecursion_7  (s0 : Int32) (s1 : Int32) (v : gV) : Prop := (vp_in s1 1) ∧ (p_L_projectedByRecursion_9    (vL v 570 s1.toNatClampNeg s0.toInt64))
set_option maxHeartbeats 4000000 in
set_option maxRecDepth 100000 in
theorem w_L_projectedByRecursion_7 {E : gE} {d : Nat} {Q : gO → gS → Prop}   (hd : 14 ≤ d) (s0 : Int32) (s1 : Int32) (v : gV) (hp : p_L_projectedByRecursion_7   s0 s1 v) (hQ : gqIV Q (f_L_projectedByRecursion_7  s0 s1 v)) : gG E m_L_projectedByRecursion d Q 0 0 (rS v) 7 [] [.int s0, .int s1, .ref (gX E + 570)] := by
  refine g_i2l dL_projectedByRecursion_7 ?_
  obtain ⟨h4, hp⟩ := hp
  refine r_last (by decide : kd 570 = (3, 1)) (show 570 < 572 by decide) h4 dL_projectedByRecursion_8 ?_
  exact w_L_projectedByRecursion_9  hd     (vL v 570 s1.toNatClampNeg s0.toInt64) hp hQ
def f_L_projectedByRecursion_0  (x1 : Int32) (v : gV) : Int32 × gV := Sum.elim (fun (sr2 : Int32) => f_L_projectedByRecursion_7  sr2 (0 : Int32) v) (fun (e : String) => if e = "java/lang/IllegalArgumentException" then (((1 : Int32), v)) else ((0, v))) (f_X11_projectedByRecursion x1 v)
def p_L_projectedByRecursion_0  (x1 : Int32) (v : gV) : Prop := (p_X11_projectedByRecursion x1 v) ∧ ((∀ (sr2 : Int32), (f_X11_projectedByRecursion x1 v) = Sum.inl sr2 → (p_L_projectedByRecursion_7   sr2 (0 : Int32) v)) ∧ (∀ (e : String), (f_X11_projectedByRecursion x1 v) = Sum.inr e → (((e = "java/lang/IllegalArgumentException") → (True)) ∧ (¬ (e = "java/lang/IllegalArgumentException") → (False)))))
set_option maxHeartbeats 4000000 in
set_option maxRecDepth 100000 in
theorem w_L_projectedByRecursion_0 {E : gE} {d : Nat} {Q : gO → gS → Prop}   (hd : 14 ≤ d) (x1 : Int32) (v : gV) (hp : p_L_projectedByRecursion_0   x1 v) (hQ : gqIV Q (f_L_projectedByRecursion_0  x1 v)) : gG E m_L_projectedByRecursion d Q 1 6 (rS v) 0 [(0, .ref (gX E + 0)), (1, .int x1), (2, .ref (gX E + 570))] [] := by
  refine g_aload_n 2 dL_projectedByRecursion_0 rfl ?_
  refine g_iconst dL_projectedByRecursion_1 (0 : Int32) (by decide) ?_
  refine g_aload_n 0 dL_projectedByRecursion_2 rfl ?_
  refine g_iload_n 1 dL_projectedByRecursion_3 rfl ?_
  obtain ⟨h1, hp⟩ := hp
  refine g_callV (rest := [.int ((0 : Int32)), .ref (gX E + 570)]) s_L_129_X11 rfl (c_X11_projectedByRecursion (E := E) (d := d - 1)   (by omega) x1 v h1) (by decide : kd 0 = (0, 8)) (show 0 < 572 by decide) rfl rfl (Nat.le_of_ble_eq_true rfl) (by omega) (by decide) (by decide) dL_projectedByRecursion_4 (adTI (fun sr2 h3 => ?_)) (axTI (fun e h3 => ?_))
  · have hQ := ql (P := gqIV Q) h3 hQ
    have hp := hp.1 sr2 h3
    refine g_lv (lv' := []) [] rfl ?_
    exact w_L_projectedByRecursion_7  hd    sr2 (0 : Int32) v hp hQ
  · have hQ := qe (P := gqIV Q) h3 hQ
    have hp := hp.2 e h3
    by_cases h5 : e = "java/lang/IllegalArgumentException"
    · have hQ := qp (P := gqIV Q) h5 hQ
      have hp := hp.1 h5
      subst h5
      refine g_catch2 [] (0, 9, 12, 13) [] rfl (fun z hz => absurd hz List.not_mem_nil) (by decide) (by decide) w_722 w_753 (fun q => ?_)
      refine g_astore_n [(3, .ref q), (0, .ref (gX E + 0)), (1, .int x1), (2, .ref (gX E + 570))] dL_projectedByRecursion_12 rfl (by decide) rfl ?_
      refine g_iconst dL_projectedByRecursion_13 (1 : Int32) (by decide) ?_
      exact g_iret rfl dL_projectedByRecursion_14 hQ
    have hQ := qn (P := gqIV Q) h5 hQ
    have hp := hp.2 h5
    exact hp.elim
def f_L_projectedByRecursion  (x1 : Int32) (v : gV) : Int32 × gV := f_L_projectedByRecursion_0 x1 v
def p_L_projectedByRecursion  (x1 : Int32) (v : gV) : Prop := p_L_projectedByRecursion_0 x1 v
theorem c_L_projectedByRecursion {E : gE} {d : Nat}   (hd : 14 ≤ d) (x1 : Int32) (v : gV) (hp : p_L_projectedByRecursion x1 v) : CT E m_L_projectedByRecursion d 1 6 [.ref (gX E + 0), .int x1, .ref (gX E + 570)] (rS v) (Cq (.inl (some (.int ((f_L_projectedByRecursion x1 v).1)))) (f_L_projectedByRecursion x1 v).2) := CT.ofH ok_L_projectedByRecursion rfl (Nat.le_of_ble_eq_true rfl) (w_L_projectedByRecursion_0  hd x1 v hp ⟨rfl, rfl⟩)
def f_X1_projectionsAgree_7 (b : Nat) : Nat → Int32 → Int32 → gV → Int32
  | 0, _, _, v => 0
  | n + 1, x1, x2, v => if x1 < x2 then ((1 : Int32)) else (if (f_X9_projectByDelays b x2 x1 v) = (f_X9_projectBackwards b x2 x1 v) then (f_X1_projectionsAgree_7 b  n x1 (x2 + 1) v) else ((0 : Int32)))
def p_X1_projectionsAgree_7 (b : Nat) : Nat → Int32 → Int32 → gV → Prop
  | 0, _, _, _ => False
  | n + 1, x1, x2, v => ((x1 < x2) → (True)) ∧ (¬ (x1 < x2) → ((p_X9_projectByDelays b x2 x1 v) ∧ ((p_X9_projectBackwards b x2 x1 v) ∧ ((((f_X9_projectByDelays b x2 x1 v) = (f_X9_projectBackwards b x2 x1 v)) → (p_X1_projectionsAgree_7 b   n x1 (x2 + 1) v)) ∧ (¬ ((f_X9_projectByDelays b x2 x1 v) = (f_X9_projectBackwards b x2 x1 v)) → (True))))))
set_option maxHeartbeats 4000000 in
set_option maxRecDepth 100000 in
theorem w_X1_projectionsAgree_7 {E : gE} {d : Nat} {Q : gO → gS → Prop} (b : Nat) (hb : isBk b) (hd : 13 ≤ d) : ∀ (n : Nat) (x1 : Int32) (x2 : Int32) (v : gV), p_X1_projectionsAgree_7 b   n x1 x2 v → gqI Q v (f_X1_projectionsAgree_7 b  n x1 x2 v) → gG E m_X1_projectionsAgree d Q 0 0 (rS v) 7 [(0, .ref (gX E + b)), (1, .int x1), (2, .int x2)] [] := by
  intro n
  induction n with
  | zero => intro x1 x2 v hp; exact hp.elim
  | succ n ih =>
    intro x1 x2 v hp hQ
    refine g_iload_n 2 dX1_projectionsAgree_7 rfl ?_
    refine g_iload_n 1 dX1_projectionsAgree_8 rfl ?_
    refine g_icmp_gt 41 dX1_projectionsAgree_9 (by decide) (fun h2 => ?_) (fun h2 => ?_)
    · have hQ := qp (P := gqI Q v) h2 hQ
      have hp := hp.1 h2
      refine g_iconst dX1_projectionsAgree_41 (1 : Int32) (by decide) ?_
      exact g_zret rfl rfl dX1_projectionsAgree_42 hQ
    · have hQ := qn (P := gqI Q v) h2 hQ
      have hp := hp.2 h2
      refine g_aload_n 0 dX1_projectionsAgree_12 rfl ?_
      refine r_get (.ref (gX E + (b + 37))) f_X1_35_X1 rfl (kbz hb) (lt_b0 hb) dX1_projectionsAgree_13 (fun _ => rfl) ?_
      refine g_iload_n 2 dX1_projectionsAgree_16 rfl ?_
      refine g_iload_n 1 dX1_projectionsAgree_17 rfl ?_
      obtain ⟨h3, hp⟩ := hp
      refine g_callV (rest := []) s_X1_245_X9 rfl (c_X9_projectByDelays (E := E) (d := d - 1) b hb (by omega) x2 x1 v h3) (kb_37 hb) (lt_b hb (by decide)) rfl rfl (Nat.le_of_ble_eq_true rfl) (by omega) (by decide) (by decide) dX1_projectionsAgree_18 (adV ?_) axN
      refine g_aload_n 0 dX1_projectionsAgree_21 rfl ?_
      refine r_get (.ref (gX E + (b + 37))) f_X1_35_X1 rfl (kbz hb) (lt_b0 hb) dX1_projectionsAgree_22 (fun _ => rfl) ?_
      refine g_iload_n 2 dX1_projectionsAgree_25 rfl ?_
      refine g_iload_n 1 dX1_projectionsAgree_26 rfl ?_
      obtain ⟨h4, hp⟩ := hp
      refine g_callV (rest := [.int ((f_X9_projectByDelays b x2 x1 v))]) s_X1_248_X9 rfl (c_X9_projectBackwards (E := E) (d := d - 1) b hb (by omega) x2 x1 v h4) (kb_37 hb) (lt_b hb (by decide)) rfl rfl (Nat.le_of_ble_eq_true rfl) (by omega) (by decide) (by decide) dX1_projectionsAgree_27 (adV ?_) axN
      refine g_icmp_eq 35 dX1_projectionsAgree_30 (by decide) (fun h5 => ?_) (fun h5 => ?_)
      · have hQ := qp (P := gqI Q v) h5 hQ
        have hp := hp.1 h5
        refine g_iinc 2 (x2 + 1) [(2, .int (x2 + 1)), (0, .ref (gX E + b)), (1, .int x1)] dX1_projectionsAgree_35 rfl rfl (by decide) rfl ?_
        refine g_goto 7 dX1_projectionsAgree_38 (by decide) ?_
        refine g_lv (lv' := [(0, .ref (gX E + b)), (1, .int x1), (2, .int (x2 + 1))]) [1, 2, 0] rfl ?_
        exact ih x1 (x2 + 1) v hp hQ
      · have hQ := qn (P := gqI Q v) h5 hQ
        have hp := hp.2 h5
        refine g_iconst dX1_projectionsAgree_33 (0 : Int32) (by decide) ?_
        exact g_zret rfl rfl dX1_projectionsAgree_34 hQ
def f_X1_projectionsAgree_0 (b : Nat)  (v : gV) : Int32 := f_X1_projectionsAgree_7 b  5000 (f_X1_latestPeriod b v) (0 : Int32) v
def p_X1_projectionsAgree_0 (b : Nat)  (v : gV) : Prop := (p_X1_latestPeriod b v) ∧ (p_X1_projectionsAgree_7 b   5000 (f_X1_latestPeriod b v) (0 : Int32) v)
set_option maxHeartbeats 4000000 in
set_option maxRecDepth 100000 in
theorem w_X1_projectionsAgree_0 {E : gE} {d : Nat} {Q : gO → gS → Prop} (b : Nat) (hb : isBk b) (hd : 13 ≤ d)  (v : gV) (hp : p_X1_projectionsAgree_0 b    v) (hQ : gqI Q v (f_X1_projectionsAgree_0 b   v)) : gG E m_X1_projectionsAgree d Q 0 0 (rS v) 0 [(0, .ref (gX E + b))] [] := by
  refine g_aload_n 0 dX1_projectionsAgree_0 rfl ?_
  obtain ⟨h1, hp⟩ := hp
  refine g_callV (rest := []) s_X1_241_X1 rfl (c_X1_latestPeriod (E := E) (d := d - 1) b hb (by omega)  v h1) (kbz hb) (lt_b0 hb) rfl rfl (Nat.le_of_ble_eq_true rfl) (by omega) (by decide) (by decide) dX1_projectionsAgree_1 (adV ?_) axN
  refine g_istore_n [(1, .int ((f_X1_latestPeriod b v))), (0, .ref (gX E + b))] dX1_projectionsAgree_4 rfl (by decide) rfl ?_
  refine g_iconst dX1_projectionsAgree_5 (0 : Int32) (by decide) ?_
  refine g_istore_n [(2, .int ((0 : Int32))), (1, .int ((f_X1_latestPeriod b v))), (0, .ref (gX E + b))] dX1_projectionsAgree_6 rfl (by decide) rfl ?_
  refine g_lv (lv' := [(0, .ref (gX E + b)), (1, .int ((f_X1_latestPeriod b v))), (2, .int ((0 : Int32)))]) [2, 1, 0] rfl ?_
  exact w_X1_projectionsAgree_7 b hb hd    5000 (f_X1_latestPeriod b v) (0 : Int32) v hp hQ
def f_X1_projectionsAgree (b : Nat)  (v : gV) : Int32 := f_X1_projectionsAgree_0 b  v
def p_X1_projectionsAgree (b : Nat)  (v : gV) : Prop := p_X1_projectionsAgree_0 b  v
theorem c_X1_projectionsAgree {E : gE} {d : Nat} (b : Nat) (hb : isBk b) (hd : 13 ≤ d)  (v : gV) (hp : p_X1_projectionsAgree b  v) : CT E m_X1_projectionsAgree d 0 0 [.ref (gX E + b)] (rS v) (Cq (.inl (some (.int (f_X1_projectionsAgree b  v)))) v) := CT.of ok_X1_projectionsAgree rfl (Nat.le_of_ble_eq_true rfl) (w_X1_projectionsAgree_0 b hb hd  v hp ⟨rfl, rfl⟩)
def f_X11_isConsistent_65  (s0 : Int32) (v : gV) : Int32 × gV := (s0, v)
def p_X11_isConsistent_65  (s0 : Int32) (v : gV) : Prop := (s0 = 0 ∨ s0 = 1) ∧ (True)
set_option maxHeartbeats 4000000 in
set_option maxRecDepth 100000 in
theorem w_X11_isConsistent_65 {E : gE} {d : Nat} {Q : gO → gS → Prop}   (hd : 14 ≤ d) (s0 : Int32) (v : gV) (hp : p_X11_isConsistent_65   s0 v) (hQ : gqIV Q (f_X11_isConsistent_65  s0 v)) : gG E m_X11_isConsistent d Q 0 0 (rS v) 65 [] [.int s0] := by
  obtain ⟨h3, hp⟩ := hp
  exact g_zret rfl (nz h3) dX11_isConsistent_65 hQ
def f_X11_isConsistent_64   (v : gV) : Int32 × gV := f_X11_isConsistent_65  (0 : Int32) v
def p_X11_isConsistent_64   (v : gV) : Prop := p_X11_isConsistent_65   (0 : Int32) v
set_option maxHeartbeats 4000000 in
set_option maxRecDepth 100000 in
theorem w_X11_isConsistent_64 {E : gE} {d : Nat} {Q : gO → gS → Prop}   (hd : 14 ≤ d)  (v : gV) (hp : p_X11_isConsistent_64    v) (hQ : gqIV Q (f_X11_isConsistent_64   v)) : gG E m_X11_isConsistent d Q 0 0 (rS v) 64 [] [] := by
  refine g_iconst dX11_isConsistent_64 (0 : Int32) (by decide) ?_
  exact w_X11_isConsistent_65  hd    (0 : Int32) v hp hQ
def f_X11_isConsistent_57  (s0 : Int32) (v : gV) : Int32 × gV := if s0 = 0 then (f_X11_isConsistent_64   v) else (f_X11_isConsistent_65  (1 : Int32) v)
def p_X11_isConsistent_57  (s0 : Int32) (v : gV) : Prop := ((s0 = 0) → (p_X11_isConsistent_64    v)) ∧ (¬ (s0 = 0) → (p_X11_isConsistent_65   (1 : Int32) v))
set_option maxHeartbeats 4000000 in
set_option maxRecDepth 100000 in
theorem w_X11_isConsistent_57 {E : gE} {d : Nat} {Q : gO → gS → Prop}   (hd : 14 ≤ d) (s0 : Int32) (v : gV) (hp : p_X11_isConsistent_57   s0 v) (hQ : gqIV Q (f_X11_isConsistent_57  s0 v)) : gG E m_X11_isConsistent d Q 0 0 (rS v) 57 [] [.int s0] := by
  refine g_if_eq 64 dX11_isConsistent_57 (by decide) (fun h13 => ?_) (fun h13 => ?_)
  · have hQ := qp (P := gqIV Q) h13 hQ
    have hp := hp.1 h13
    exact w_X11_isConsistent_64  hd     v hp hQ
  · have hQ := qn (P := gqIV Q) h13 hQ
    have hp := hp.2 h13
    refine g_iconst dX11_isConsistent_60 (1 : Int32) (by decide) ?_
    refine g_goto 65 dX11_isConsistent_61 (by decide) ?_
    exact w_X11_isConsistent_65  hd    (1 : Int32) v hp hQ
def f_X11_isConsistent_37  (s0 : Int32) (v : gV) : Int32 × gV := if s0 = 0 then (f_X11_isConsistent_64   v) else (if (f_X1_projectionsAgree 1 v) = 0 then (f_X11_isConsistent_64   v) else (f_X11_isConsistent_57  ((f_X1_coversAgree 1 v).1) (f_X1_coversAgree 1 v).2))
def p_X11_isConsistent_37  (s0 : Int32) (v : gV) : Prop := ((s0 = 0) → (p_X11_isConsistent_64    v)) ∧ (¬ (s0 = 0) → ((p_X1_projectionsAgree 1 v) ∧ ((((f_X1_projectionsAgree 1 v) = 0) → (p_X11_isConsistent_64    v)) ∧ (¬ ((f_X1_projectionsAgree 1 v) = 0) → ((p_X1_coversAgree 1 v) ∧ (p_X11_isConsistent_57   ((f_X1_coversAgree 1 v).1) (f_X1_coversAgree 1 v).2))))))
set_option maxHeartbeats 4000000 in
set_option maxRecDepth 100000 in
theorem w_X11_isConsistent_37 {E : gE} {d : Nat} {Q : gO → gS → Prop}   (hd : 14 ≤ d) (s0 : Int32) (v : gV) (hp : p_X11_isConsistent_37   s0 v) (hQ : gqIV Q (f_X11_isConsistent_37  s0 v)) : gG E m_X11_isConsistent d Q 0 0 (rS v) 37 [(0, .ref (gX E + 0))] [.int s0] := by
  refine g_if_eq 64 dX11_isConsistent_37 (by decide) (fun h9 => ?_) (fun h9 => ?_)
  · have hQ := qp (P := gqIV Q) h9 hQ
    have hp := hp.1 h9
    refine g_lv (lv' := []) [] rfl ?_
    exact w_X11_isConsistent_64  hd     v hp hQ
  · have hQ := qn (P := gqIV Q) h9 hQ
    have hp := hp.2 h9
    refine g_aload_n 0 dX11_isConsistent_40 rfl ?_
    refine r_get (.ref (gX E + 1)) f_X11_10_X11 rfl (by decide : kd 0 = (0, 8)) (show 0 < 572 by decide) dX11_isConsistent_41 (fun _ => rfl) ?_
    obtain ⟨h10, hp⟩ := hp
    refine g_callV (rest := []) s_X11_278_X1 rfl (c_X1_projectionsAgree (E := E) (d := d - 1) 1 isBk_1 (by omega)  v h10) (kbz isBk_1) (lt_b0 isBk_1) rfl rfl (Nat.le_of_ble_eq_true rfl) (by omega) (by decide) (by decide) dX11_isConsistent_44 (adV ?_) axN
    refine g_if_eq 64 dX11_isConsistent_47 (by decide) (fun h11 => ?_) (fun h11 => ?_)
    · have hQ := qp (P := gqIV Q) h11 hQ
      have hp := hp.1 h11
      refine g_lv (lv' := []) [] rfl ?_
      exact w_X11_isConsistent_64  hd     v hp hQ
    · have hQ := qn (P := gqIV Q) h11 hQ
      have hp := hp.2 h11
      refine g_aload_n 0 dX11_isConsistent_50 rfl ?_
      refine r_get (.ref (gX E + 1)) f_X11_10_X11 rfl (by decide : kd 0 = (0, 8)) (show 0 < 572 by decide) dX11_isConsistent_51 (fun _ => rfl) ?_
      obtain ⟨h12, hp⟩ := hp
      refine g_callV (rest := []) s_X11_281_X1 rfl (c_X1_coversAgree (E := E) (d := d - 1) 1 isBk_1 (by omega)  v h12) (kbz isBk_1) (lt_b0 isBk_1) rfl rfl (Nat.le_of_ble_eq_true rfl) (by omega) (by decide) (by decide) dX11_isConsistent_54 (adV ?_) axN
      refine g_lv (lv' := []) [] rfl ?_
      exact w_X11_isConsistent_57  hd    ((f_X1_coversAgree 1 v).1) (f_X1_coversAgree 1 v).2 hp hQ
def f_X11_isConsistent_27  (s0 : Int32) (v : gV) : Int32 × gV := if s0 = 0 then (f_X11_isConsistent_64   v) else (f_X11_isConsistent_37  ((f_X1_outcomesAgree 1 v).1) (f_X1_outcomesAgree 1 v).2)
def p_X11_isConsistent_27  (s0 : Int32) (v : gV) : Prop := ((s0 = 0) → (p_X11_isConsistent_64    v)) ∧ (¬ (s0 = 0) → ((p_X1_outcomesAgree 1 v) ∧ (p_X11_isConsistent_37   ((f_X1_outcomesAgree 1 v).1) (f_X1_outcomesAgree 1 v).2)))
set_option maxHeartbeats 4000000 in
set_option maxRecDepth 100000 in
theorem w_X11_isConsistent_27 {E : gE} {d : Nat} {Q : gO → gS → Prop}   (hd : 14 ≤ d) (s0 : Int32) (v : gV) (hp : p_X11_isConsistent_27   s0 v) (hQ : gqIV Q (f_X11_isConsistent_27  s0 v)) : gG E m_X11_isConsistent d Q 0 0 (rS v) 27 [(0, .ref (gX E + 0))] [.int s0] := by
  refine g_if_eq 64 dX11_isConsistent_27 (by decide) (fun h7 => ?_) (fun h7 => ?_)
  · have hQ := qp (P := gqIV Q) h7 hQ
    have hp := hp.1 h7
    refine g_lv (lv' := []) [] rfl ?_
    exact w_X11_isConsistent_64  hd     v hp hQ
  · have hQ := qn (P := gqIV Q) h7 hQ
    have hp := hp.2 h7
    refine g_aload_n 0 dX11_isConsistent_30 rfl ?_
    refine r_get (.ref (gX E + 1)) f_X11_10_X11 rfl (by decide : kd 0 = (0, 8)) (show 0 < 572 by decide) dX11_isConsistent_31 (fun _ => rfl) ?_
    obtain ⟨h8, hp⟩ := hp
    refine g_callV (rest := []) s_X11_275_X1 rfl (c_X1_outcomesAgree (E := E) (d := d - 1) 1 isBk_1 (by omega)  v h8) (kbz isBk_1) (lt_b0 isBk_1) rfl rfl (Nat.le_of_ble_eq_true rfl) (by omega) (by decide) (by decide) dX11_isConsistent_34 (adV ?_) axN
    exact w_X11_isConsistent_37  hd    ((f_X1_outcomesAgree 1 v).1) (f_X1_outcomesAgree 1 v).2 hp hQ
def f_X11_isConsistent_0   (v : gV) : Int32 × gV := if (f_X1_isBalanced 1 v) = 0 then (f_X11_isConsistent_64   v) else (if (f_X1_keepsCapacities 1 v) = 0 then (f_X11_isConsistent_64   v) else (f_X11_isConsistent_27  ((f_X1_layersAgree 1 v).1) (f_X1_layersAgree 1 v).2))
def p_X11_isConsistent_0   (v : gV) : Prop := (p_X1_isBalanced 1 v) ∧ ((((f_X1_isBalanced 1 v) = 0) → (p_X11_isConsistent_64    v)) ∧ (¬ ((f_X1_isBalanced 1 v) = 0) → ((p_X1_keepsCapacities 1 v) ∧ ((((f_X1_keepsCapacities 1 v) = 0) → (p_X11_isConsistent_64    v)) ∧ (¬ ((f_X1_keepsCapacities 1 v) = 0) → ((p_X1_layersAgree 1 v) ∧ (p_X11_isConsistent_27   ((f_X1_layersAgree 1 v).1) (f_X1_layersAgree 1 v).2)))))))
set_option maxHeartbeats 4000000 in
set_option maxRecDepth 100000 in
theorem w_X11_isConsistent_0 {E : gE} {d : Nat} {Q : gO → gS → Prop}   (hd : 14 ≤ d)  (v : gV) (hp : p_X11_isConsistent_0    v) (hQ : gqIV Q (f_X11_isConsistent_0   v)) : gG E m_X11_isConsistent d Q 0 0 (rS v) 0 [(0, .ref (gX E + 0))] [] := by
  refine g_aload_n 0 dX11_isConsistent_0 rfl ?_
  refine r_get (.ref (gX E + 1)) f_X11_10_X11 rfl (by decide : kd 0 = (0, 8)) (show 0 < 572 by decide) dX11_isConsistent_1 (fun _ => rfl) ?_
  obtain ⟨h1, hp⟩ := hp
  refine g_callV (rest := []) s_X11_265_X1 rfl (c_X1_isBalanced (E := E) (d := d - 1) 1 isBk_1 (by omega)  v h1) (kbz isBk_1) (lt_b0 isBk_1) rfl rfl (Nat.le_of_ble_eq_true rfl) (by omega) (by decide) (by decide) dX11_isConsistent_4 (adV ?_) axN
  refine g_if_eq 64 dX11_isConsistent_7 (by decide) (fun h2 => ?_) (fun h2 => ?_)
  · have hQ := qp (P := gqIV Q) h2 hQ
    have hp := hp.1 h2
    refine g_lv (lv' := []) [] rfl ?_
    exact w_X11_isConsistent_64  hd     v hp hQ
  · have hQ := qn (P := gqIV Q) h2 hQ
    have hp := hp.2 h2
    refine g_aload_n 0 dX11_isConsistent_10 rfl ?_
    refine r_get (.ref (gX E + 1)) f_X11_10_X11 rfl (by decide : kd 0 = (0, 8)) (show 0 < 572 by decide) dX11_isConsistent_11 (fun _ => rfl) ?_
    obtain ⟨h4, hp⟩ := hp
    refine g_callV (rest := []) s_X11_269_X1 rfl (c_X1_keepsCapacities (E := E) (d := d - 1) 1 isBk_1 (by omega)  v h4) (kbz isBk_1) (lt_b0 isBk_1) rfl rfl (Nat.le_of_ble_eq_true rfl) (by omega) (by decide) (by decide) dX11_isConsistent_14 (adV ?_) axN
    refine g_if_eq 64 dX11_isConsistent_17 (by decide) (fun h5 => ?_) (fun h5 => ?_)
    · have hQ := qp (P := gqIV Q) h5 hQ
      have hp := hp.1 h5
      refine g_lv (lv' := []) [] rfl ?_
      exact w_X11_isConsistent_64  hd     v hp hQ
    · have hQ := qn (P := gqIV Q) h5 hQ
      have hp := hp.2 h5
      refine g_aload_n 0 dX11_isConsistent_20 rfl ?_
      refine r_get (.ref (gX E + 1)) f_X11_10_X11 rfl (by decide : kd 0 = (0, 8)) (show 0 < 572 by decide) dX11_isConsistent_21 (fun _ => rfl) ?_
      obtain ⟨h6, hp⟩ := hp
      refine g_callV (rest := []) s_X11_272_X1 rfl (c_X1_layersAgree (E := E) (d := d - 1) 1 isBk_1 (by omega)  v h6) (kbz isBk_1) (lt_b0 isBk_1) rfl rfl (Nat.le_of_ble_eq_true rfl) (by omega) (by decide) (by decide) dX11_isConsistent_24 (adV ?_) axN
      exact w_X11_isConsistent_27  hd    ((f_X1_layersAgree 1 v).1) (f_X1_layersAgree 1 v).2 hp hQ
def f_X11_isConsistent   (v : gV) : Int32 × gV := f_X11_isConsistent_0  v
def p_X11_isConsistent   (v : gV) : Prop := p_X11_isConsistent_0  v
theorem c_X11_isConsistent {E : gE} {d : Nat}   (hd : 14 ≤ d)  (v : gV) (hp : p_X11_isConsistent  v) : CT E m_X11_isConsistent d 0 0 [.ref (gX E + 0)] (rS v) (Cq (.inl (some (.int ((f_X11_isConsistent  v).1)))) (f_X11_isConsistent  v).2) := CT.of ok_X11_isConsistent rfl (Nat.le_of_ble_eq_true rfl) (w_X11_isConsistent_0  hd  v hp ⟨rfl, rfl⟩)
