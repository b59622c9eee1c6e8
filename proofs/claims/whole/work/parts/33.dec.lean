def f_X12_lastPeriod_8  (s0 : Int32) (v : gV) : Int32 × gV := (s0, v)
def p_X12_lastPeriod_8  (s0 : Int32) (v : gV) : Prop := True
set_option maxHeartbeats 4000000 in
set_option maxRecDepth 100000 in
theorem w_X12_lastPeriod_8 {E : gE} {d : Nat} {Q : gO → gS → Prop}   (hd : 1 ≤ d) (s0 : Int32) (v : gV) (hp : p_X12_lastPeriod_8   s0 v) (hQ : gqIV Q (f_X12_lastPeriod_8  s0 v)) : gG E m_X12_lastPeriod d Q 0 0 (rS v) 8 [] [.int s0] := by
  exact g_iret rfl dX12_lastPeriod_8 hQ
def f_X12_lastPeriod_0   (v : gV) : Int32 × gV := f_X12_lastPeriod_8  ((f_X12_plain (f_X12_latest  v) v).1) (f_X12_plain (f_X12_latest  v) v).2
def p_X12_lastPeriod_0   (v : gV) : Prop := (p_X12_latest  v) ∧ ((p_X12_plain (f_X12_latest  v) v) ∧ (p_X12_lastPeriod_8   ((f_X12_plain (f_X12_latest  v) v).1) (f_X12_plain (f_X12_latest  v) v).2))
set_option maxHeartbeats 4000000 in
set_option maxRecDepth 100000 in
theorem w_X12_lastPeriod_0 {E : gE} {d : Nat} {Q : gO → gS → Prop}   (hd : 1 ≤ d)  (v : gV) (hp : p_X12_lastPeriod_0    v) (hQ : gqIV Q (f_X12_lastPeriod_0   v)) : gG E m_X12_lastPeriod d Q 0 0 (rS v) 0 [(0, .ref (gX E + 559))] [] := by
  refine g_aload_n 0 dX12_lastPeriod_0 rfl ?_
  refine g_aload_n 0 dX12_lastPeriod_1 rfl ?_
  obtain ⟨h1, hp⟩ := hp
  refine g_callV (rest := [.ref (gX E + 559)]) s_X12_241_X12 rfl (c_X12_latest (E := E) (d := d - 1)   (by omega)  v h1) (by decide : kd 559 = (0, 9)) (show 559 < 572 by decide) rfl rfl (Nat.le_of_ble_eq_true rfl) (by omega) (by decide) (by decide) dX12_lastPeriod_2 (adV ?_) axN
  obtain ⟨h2, hp⟩ := hp
  refine g_callV (rest := []) s_X12_210_X12 rfl (c_X12_plain (E := E) (d := d - 1)   (by omega) (f_X12_latest  v) v h2) (by decide : kd 559 = (0, 9)) (show 559 < 572 by decide) rfl rfl (Nat.le_of_ble_eq_true rfl) (by omega) (by decide) (by decide) dX12_lastPeriod_5 (adV ?_) axN
  refine g_lv (lv' := []) [] rfl ?_
  exact w_X12_lastPeriod_8  hd    ((f_X12_plain (f_X12_latest  v) v).1) (f_X12_plain (f_X12_latest  v) v).2 hp hQ
def f_X12_lastPeriod   (v : gV) : Int32 × gV := f_X12_lastPeriod_0  v
def p_X12_lastPeriod   (v : gV) : Prop := p_X12_lastPeriod_0  v
theorem c_X12_lastPeriod {E : gE} {d : Nat}   (hd : 1 ≤ d)  (v : gV) (hp : p_X12_lastPeriod  v) : CT E m_X12_lastPeriod d 0 0 [.ref (gX E + 559)] (rS v) (Cq (.inl (some (.int ((f_X12_lastPeriod  v).1)))) (f_X12_lastPeriod  v).2) := CT.of ok_X12_lastPeriod rfl (Nat.le_of_ble_eq_true rfl) (w_X12_lastPeriod_0  hd  v hp ⟨rfl, rfl⟩)
def f_X12_total_5  : Nat → Int32 → Int32 → Int32 → Int32 → gV → Int32
  | 0, _, _, _, _, v => 0
  | n + 1, x1, x2, x3, x4, v => if x2 < x4 then x3 else (f_X12_total_5  n x1 x2 (x3 + (f_X12_cell x1 x4 v)) (x4 + 1) v)
def p_X12_total_5  : Nat → Int32 → Int32 → Int32 → Int32 → gV → Prop
  | 0, _, _, _, _, _ => False
  | n + 1, x1, x2, x3, x4, v => ((x2 < x4) → (True)) ∧ (¬ (x2 < x4) → ((p_X12_cell x1 x4 v) ∧ (p_X12_total_5   n x1 x2 (x3 + (f_X12_cell x1 x4 v)) (x4 + 1) v)))
set_option maxHeartbeats 4000000 in
set_option maxRecDepth 100000 in
theorem w_X12_total_5 {E : gE} {d : Nat} {Q : gO → gS → Prop}   (hd : 1 ≤ d) : ∀ (n : Nat) (x1 : Int32) (x2 : Int32) (x3 : Int32) (x4 : Int32) (v : gV), p_X12_total_5   n x1 x2 x3 x4 v → gqI Q v (f_X12_total_5  n x1 x2 x3 x4 v) → gG E m_X12_total d Q 0 0 (rS v) 5 [(0, .ref (gX E + 559)), (1, .int x1), (2, .int x2), (3, .int x3), (4, .int x4)] [] := by
  intro n
  induction n with
  | zero => intro x1 x2 x3 x4 v hp; exact hp.elim
  | succ n ih =>
    intro x1 x2 x3 x4 v hp hQ
    refine g_iload 4 dX12_total_5 rfl ?_
    refine g_iload_n 2 dX12_total_7 rfl ?_
    refine g_icmp_gt 27 dX12_total_8 (by decide) (fun h1 => ?_) (fun h1 => ?_)
    · have hQ := qp (P := gqI Q v) h1 hQ
      have hp := hp.1 h1
      refine g_iload_n 3 dX12_total_27 rfl ?_
      exact g_iret rfl dX12_total_28 hQ
    · have hQ := qn (P := gqI Q v) h1 hQ
      have hp := hp.2 h1
      refine g_iload_n 3 dX12_total_11 rfl ?_
      refine g_aload_n 0 dX12_total_12 rfl ?_
      refine g_iload_n 1 dX12_total_13 rfl ?_
      refine g_iload 4 dX12_total_14 rfl ?_
      obtain ⟨h2, hp⟩ := hp
      refine g_callV (rest := [.int x3]) s_X12_238_X12 rfl (c_X12_cell (E := E) (d := d - 1)   (by omega) x1 x4 v h2) (by decide : kd 559 = (0, 9)) (show 559 < 572 by decide) rfl rfl (Nat.le_of_ble_eq_true rfl) (by omega) (by decide) (by decide) dX12_total_16 (adV ?_) axN
      refine g_iadd dX12_total_19 ?_
      refine g_istore_n [(3, .int (x3 + (f_X12_cell x1 x4 v))), (0, .ref (gX E + 559)), (1, .int x1), (2, .int x2), (4, .int x4)] dX12_total_20 rfl (by decide) rfl ?_
      refine g_iinc 4 (x4 + 1) [(4, .int (x4 + 1)), (3, .int (x3 + (f_X12_cell x1 x4 v))), (0, .ref (gX E + 559)), (1, .int x1), (2, .int x2)] dX12_total_21 rfl rfl (by decide) rfl ?_
      refine g_goto 5 dX12_total_24 (by decide) ?_
      refine g_lv (lv' := [(0, .ref (gX E + 559)), (1, .int x1), (2, .int x2), (3, .int (x3 + (f_X12_cell x1 x4 v))), (4, .int (x4 + 1))]) [2, 3, 4, 1, 0] rfl ?_
      exact ih x1 x2 (x3 + (f_X12_cell x1 x4 v)) (x4 + 1) v hp hQ
def f_X12_total_0  (x1 : Int32) (x2 : Int32) (v : gV) : Int32 := f_X12_total_5  5000 x1 x2 (0 : Int32) (0 : Int32) v
def p_X12_total_0  (x1 : Int32) (x2 : Int32) (v : gV) : Prop := p_X12_total_5   5000 x1 x2 (0 : Int32) (0 : Int32) v
set_option maxHeartbeats 4000000 in
set_option maxRecDepth 100000 in
theorem w_X12_total_0 {E : gE} {d : Nat} {Q : gO → gS → Prop}   (hd : 1 ≤ d) (x1 : Int32) (x2 : Int32) (v : gV) (hp : p_X12_total_0   x1 x2 v) (hQ : gqI Q v (f_X12_total_0  x1 x2 v)) : gG E m_X12_total d Q 0 0 (rS v) 0 [(0, .ref (gX E + 559)), (1, .int x1), (2, .int x2)] [] := by
  refine g_iconst dX12_total_0 (0 : Int32) (by decide) ?_
  refine g_istore_n [(3, .int ((0 : Int32))), (0, .ref (gX E + 559)), (1, .int x1), (2, .int x2)] dX12_total_1 rfl (by decide) rfl ?_
  refine g_iconst dX12_total_2 (0 : Int32) (by decide) ?_
  refine g_istore [(4, .int ((0 : Int32))), (3, .int ((0 : Int32))), (0, .ref (gX E + 559)), (1, .int x1), (2, .int x2)] dX12_total_3 (by decide) rfl ?_
  refine g_lv (lv' := [(0, .ref (gX E + 559)), (1, .int x1), (2, .int x2), (3, .int ((0 : Int32))), (4, .int ((0 : Int32)))]) [2, 3, 4, 1, 0] rfl ?_
  exact w_X12_total_5  hd    5000 x1 x2 (0 : Int32) (0 : Int32) v hp hQ
def f_X12_total  (x1 : Int32) (x2 : Int32) (v : gV) : Int32 := f_X12_total_0 x1 x2 v
def p_X12_total  (x1 : Int32) (x2 : Int32) (v : gV) : Prop := p_X12_total_0 x1 x2 v
theorem c_X12_total {E : gE} {d : Nat}   (hd : 1 ≤ d) (x1 : Int32) (x2 : Int32) (v : gV) (hp : p_X12_total x1 x2 v) : CT E m_X12_total d 0 0 [.ref (gX E + 559), .int x1, .int x2] (rS v) (Cq (.inl (some (.int (f_X12_total x1 x2 v)))) v) := CT.of ok_X12_total rfl (Nat.le_of_ble_eq_true rfl) (w_X12_total_0  hd x1 x2 v hp ⟨rfl, rfl⟩)
def f_X12_totals_5  : Nat → Int32 → Int32 → Int32 → Int32 → gV → Int32
  | 0, _, _, _, _, v => 0
  | n + 1, x1, x2, x3, x4, v => if (f_X12_latest  v) < (x4 + x2) then x3 else (f_X12_totals_5  n x1 x2 (x3 + (f_X12_total x4 x1 v)) (x4 + 1) v)
def p_X12_totals_5  : Nat → Int32 → Int32 → Int32 → Int32 → gV → Prop
  | 0, _, _, _, _, _ => False
  | n + 1, x1, x2, x3, x4, v => (p_X12_latest  v) ∧ ((((f_X12_latest  v) < (x4 + x2)) → (True)) ∧ (¬ ((f_X12_latest  v) < (x4 + x2)) → ((p_X12_total x4 x1 v) ∧ (p_X12_totals_5   n x1 x2 (x3 + (f_X12_total x4 x1 v)) (x4 + 1) v))))
set_option maxHeartbeats 4000000 in
set_option maxRecDepth 100000 in
theorem w_X12_totals_5 {E : gE} {d : Nat} {Q : gO → gS → Prop}   (hd : 2 ≤ d) : ∀ (n : Nat) (x1 : Int32) (x2 : Int32) (x3 : Int32) (x4 : Int32) (v : gV), p_X12_totals_5   n x1 x2 x3 x4 v → gqI Q v (f_X12_totals_5  n x1 x2 x3 x4 v) → gG E m_X12_totals d Q 0 0 (rS v) 5 [(0, .ref (gX E + 559)), (1, .int x1), (2, .int x2), (3, .int x3), (4, .int x4)] [] := by
  intro n
  induction n with
  | zero => intro x1 x2 x3 x4 v hp; exact hp.elim
  | succ n ih =>
    intro x1 x2 x3 x4 v hp hQ
    refine g_iload 4 dX12_totals_5 rfl ?_
    refine g_iload_n 2 dX12_totals_7 rfl ?_
    refine g_iadd dX12_totals_8 ?_
    refine g_aload_n 0 dX12_totals_9 rfl ?_
    obtain ⟨h1, hp⟩ := hp
    refine g_callV (rest := [.int (x4 + x2)]) s_X12_241_X12 rfl (c_X12_latest (E := E) (d := d - 1)   (by omega)  v h1) (by decide : kd 559 = (0, 9)) (show 559 < 572 by decide) rfl rfl (Nat.le_of_ble_eq_true rfl) (by omega) (by decide) (by decide) dX12_totals_10 (adV ?_) axN
    refine g_icmp_gt 32 dX12_totals_13 (by decide) (fun h2 => ?_) (fun h2 => ?_)
    · have hQ := qp (P := gqI Q v) h2 hQ
      have hp := hp.1 h2
      refine g_iload_n 3 dX12_totals_32 rfl ?_
      exact g_iret rfl dX12_totals_33 hQ
    · have hQ := qn (P := gqI Q v) h2 hQ
      have hp := hp.2 h2
      refine g_iload_n 3 dX12_totals_16 rfl ?_
      refine g_aload_n 0 dX12_totals_17 rfl ?_
      refine g_iload 4 dX12_totals_18 rfl ?_
      refine g_iload_n 1 dX12_totals_20 rfl ?_
      obtain ⟨h3, hp⟩ := hp
      refine g_callV (rest := [.int x3]) s_X12_245_X12 rfl (c_X12_total (E := E) (d := d - 1)   (by omega) x4 x1 v h3) (by decide : kd 559 = (0, 9)) (show 559 < 572 by decide) rfl rfl (Nat.le_of_ble_eq_true rfl) (by omega) (by decide) (by decide) dX12_totals_21 (adV ?_) axN
      refine g_iadd dX12_totals_24 ?_
      refine g_istore_n [(3, .int (x3 + (f_X12_total x4 x1 v))), (0, .ref (gX E + 559)), (1, .int x1), (2, .int x2), (4, .int x4)] dX12_totals_25 rfl (by decide) rfl ?_
      refine g_iinc 4 (x4 + 1) [(4, .int (x4 + 1)), (3, .int (x3 + (f_X12_total x4 x1 v))), (0, .ref (gX E + 559)), (1, .int x1), (2, .int x2)] dX12_totals_26 rfl rfl (by decide) rfl ?_
      refine g_goto 5 dX12_totals_29 (by decide) ?_
      refine g_lv (lv' := [(0, .ref (gX E + 559)), (1, .int x1), (2, .int x2), (3, .int (x3 + (f_X12_total x4 x1 v))), (4, .int (x4 + 1))]) [2, 3, 4, 1, 0] rfl ?_
      exact ih x1 x2 (x3 + (f_X12_total x4 x1 v)) (x4 + 1) v hp hQ
def f_X12_totals_0  (x1 : Int32) (x2 : Int32) (v : gV) : Int32 := f_X12_totals_5  5000 x1 x2 (0 : Int32) (0 : Int32) v
def p_X12_totals_0  (x1 : Int32) (x2 : Int32) (v : gV) : Prop := p_X12_totals_5   5000 x1 x2 (0 : Int32) (0 : Int32) v
set_option maxHeartbeats 4000000 in
set_option maxRecDepth 100000 in
theorem w_X12_totals_0 {E : gE} {d : Nat} {Q : gO → gS → Prop}   (hd : 2 ≤ d) (x1 : Int32) (x2 : Int32) (v : gV) (hp : p_X12_totals_0   x1 x2 v) (hQ : gqI Q v (f_X12_totals_0  x1 x2 v)) : gG E m_X12_totals d Q 0 0 (rS v) 0 [(0, .ref (gX E + 559)), (1, .int x1), (2, .int x2)] [] := by
  refine g_iconst dX12_totals_0 (0 : Int32) (by decide) ?_
  refine g_istore_n [(3, .int ((0 : Int32))), (0, .ref (gX E + 559)), (1, .int x1), (2, .int x2)] dX12_totals_1 rfl (by decide) rfl ?_
  refine g_iconst dX12_totals_2 (0 : Int32) (by decide) ?_
  refine g_istore [(4, .int ((0 : Int32))), (3, .int ((0 : Int32))), (0, .ref (gX E + 559)), (1, .int x1), (2, .int x2)] dX12_totals_3 (by decide) rfl ?_
  refine g_lv (lv' := [(0, .ref (gX E + 559)), (1, .int x1), (2, .int x2), (3, .int ((0 : Int32))), (4, .int ((0 : Int32)))]) [2, 3, 4, 1, 0] rfl ?_
  exact w_X12_totals_5  hd    5000 x1 x2 (0 : Int32) (0 : Int32) v hp hQ
def f_X12_totals  (x1 : Int32) (x2 : Int32) (v : gV) : Int32 := f_X12_totals_0 x1 x2 v
def p_X12_totals  (x1 : Int32) (x2 : Int32) (v : gV) : Prop := p_X12_totals_0 x1 x2 v
theorem c_X12_totals {E : gE} {d : Nat}   (hd : 2 ≤ d) (x1 : Int32) (x2 : Int32) (v : gV) (hp : p_X12_totals x1 x2 v) : CT E m_X12_totals d 0 0 [.ref (gX E + 559), .int x1, .int x2] (rS v) (Cq (.inl (some (.int (f_X12_totals x1 x2 v)))) v) := CT.of ok_X12_totals rfl (Nat.le_of_ble_eq_true rfl) (w_X12_totals_0  hd x1 x2 v hp ⟨rfl, rfl⟩)
def f_X12_projection_64  (K21 : Int64 → Int32 → gV → Int32)  (x2 : Int64) (x4 : Int32) (v : gV) : Int32 := K21 x2 (x4 + 1) v
def p_X12_projection_64  (K21 : Int64 → Int32 → gV → Int32)  (PK21 : Int64 → Int32 → gV → Prop)  (x2 : Int64) (x4 : Int32) (v : gV) : Prop := PK21 x2 (x4 + 1) v
set_option maxHeartbeats 4000000 in
set_option maxRecDepth 100000 in
theorem w_X12_projection_64 {E : gE} {d : Nat} {Q : gO → gS → Prop}   (hd : 3 ≤ d) (K21 : Int64 → Int32 → gV → Int32)  (PK21 : Int64 → Int32 → gV → Prop)  (hK21 : ∀ (x2 : Int64) (x4 : Int32) (v : gV), PK21 x2 x4 v → gqI Q v (K21 x2 x4 v) → gG E m_X12_projection d Q 0 0 (rS v) 21 [(0, .ref (gX E + 559)), (2, .long x2), (4, .int x4)] [])  (x2 : Int64) (x4 : Int32) (v : gV) (hp : p_X12_projection_64 K21 PK21 x2 x4 v) (hQ : gqI Q v (f_X12_projection_64 K21 x2 x4 v)) : gG E m_X12_projection d Q 0 0 (rS v) 64 [(0, .ref (gX E + 559)), (2, .long x2), (4, .int x4)] [] := by
  refine g_iinc 2 (x4 + 1) [(4, .int (x4 + 1)), (0, .ref (gX E + 559)), (2, .long x2)] dX12_projection_64 rfl rfl (by decide) rfl ?_
  refine g_goto 21 dX12_projection_67 (by decide) ?_
  refine g_lv (lv' := [(0, .ref (gX E + 559)), (2, .long x2), (4, .int (x4 + 1))]) [1, 2, 0] rfl ?_
  exact hK21 x2 (x4 + 1) v hp hQ
def f_X12_projection_21  : Nat → Int64 → Int32 → gV → Int32
  | 0, _, _, v => 0
  | n + 1, x2, x4, v => if (5 : Int32) ≤ x4 then x2.toInt32 else (if (f_X12_totals x4 (x4 + (1 : Int32)) v) ≤ 0 then (f_X12_projection_64 (fun x2 x4 v => f_X12_projection_21  n x2 x4 v) x2 x4 v) else (f_X12_projection_64 (fun x2 x4 v => f_X12_projection_21  n x2 x4 v) ((x2 * ((f_X12_totals (x4 + (1 : Int32)) (x4 + (1 : Int32)) v).toInt64)) / ((f_X12_totals x4 (x4 + (1 : Int32)) v).toInt64)) x4 v))
def p_X12_projection_21  : Nat → Int64 → Int32 → gV → Prop
  | 0, _, _, _ => False
  | n + 1, x2, x4, v => (((5 : Int32) ≤ x4) → (True)) ∧ (¬ ((5 : Int32) ≤ x4) → ((p_X12_totals x4 (x4 + (1 : Int32)) v) ∧ ((((f_X12_totals x4 (x4 + (1 : Int32)) v) ≤ 0) → (p_X12_projection_64 (fun x2 x4 v => f_X12_projection_21  n x2 x4 v) (fun x2 x4 v => p_X12_projection_21   n x2 x4 v) x2 x4 v)) ∧ (¬ ((f_X12_totals x4 (x4 + (1 : Int32)) v) ≤ 0) → ((p_X12_totals (x4 + (1 : Int32)) (x4 + (1 : Int32)) v) ∧ ((¬ ((f_X12_totals x4 (x4 + (1 : Int32)) v).toInt64) = 0) ∧ (p_X12_projection_64 (fun x2 x4 v => f_X12_projection_21  n x2 x4 v) (fun x2 x4 v => p_X12_projection_21   n x2 x4 v) ((x2 * ((f_X12_totals (x4 + (1 : Int32)) (x4 + (1 : Int32)) v).toInt64)) / ((f_X12_totals x4 (x4 + (1 : Int32)) v).toInt64)) x4 v)))))))
set_option maxHeartbeats 4000000 in
set_option maxRecDepth 100000 in
theorem w_X12_projection_21 {E : gE} {d : Nat} {Q : gO → gS → Prop}   (hd : 3 ≤ d) : ∀ (n : Nat) (x2 : Int64) (x4 : Int32) (v : gV), p_X12_projection_21   n x2 x4 v → gqI Q v (f_X12_projection_21  n x2 x4 v) → gG E m_X12_projection d Q 0 0 (rS v) 21 [(0, .ref (gX E + 559)), (2, .long x2), (4, .int x4)] [] := by
  intro n
  induction n with
  | zero => intro x2 x4 v hp; exact hp.elim
  | succ n ih =>
    intro x2 x4 v hp hQ
    refine g_iload 2 dX12_projection_21 rfl ?_
    refine g_iconst dX12_projection_23 (5 : Int32) (by decide) ?_
    refine g_icmp_ge 70 dX12_projection_24 (by decide) (fun h4 => ?_) (fun h4 => ?_)
    · have hQ := qp (P := gqI Q v) h4 hQ
      have hp := hp.1 h4
      refine g_lload_n 1 dX12_projection_70 rfl ?_
      refine g_l2i dX12_projection_71 ?_
      exact g_iret rfl dX12_projection_72 hQ
    · have hQ := qn (P := gqI Q v) h4 hQ
      have hp := hp.2 h4
      refine g_aload_n 0 dX12_projection_27 rfl ?_
      refine g_iload 2 dX12_projection_28 rfl ?_
      refine g_iload 2 dX12_projection_30 rfl ?_
      refine g_iconst dX12_projection_32 (1 : Int32) (by decide) ?_
      refine g_iadd dX12_projection_33 ?_
      obtain ⟨h5, hp⟩ := hp
      refine g_callV (rest := []) s_X12_248_X12 rfl (c_X12_totals (E := E) (d := d - 1)   (by omega) x4 (x4 + (1 : Int32)) v h5) (by decide : kd 559 = (0, 9)) (show 559 < 572 by decide) rfl rfl (Nat.le_of_ble_eq_true rfl) (by omega) (by decide) (by decide) dX12_projection_34 (adV ?_) axN
      refine g_istore [(5, .int ((f_X12_totals x4 (x4 + (1 : Int32)) v))), (0, .ref (gX E + 559)), (2, .long x2), (4, .int x4)] dX12_projection_37 (by decide) rfl ?_
      refine g_iload 0 dX12_projection_39 rfl ?_
      refine g_if_le 64 dX12_projection_41 (by decide) (fun h6 => ?_) (fun h6 => ?_)
      · have hQ := qp (P := gqI Q v) h6 hQ
        have hp := hp.1 h6
        refine g_lv (lv' := [(0, .ref (gX E + 559)), (2, .long x2), (4, .int x4)]) [1, 2, 3] rfl ?_
        exact w_X12_projection_64  hd (fun x2 x4 v => f_X12_projection_21  n x2 x4 v) (fun x2 x4 v => p_X12_projection_21   n x2 x4 v) ih x2 x4 v hp hQ
      · have hQ := qn (P := gqI Q v) h6 hQ
        have hp := hp.2 h6
        refine g_lload_n 2 dX12_projection_44 rfl ?_
        refine g_aload_n 1 dX12_projection_45 rfl ?_
        refine g_iload 3 dX12_projection_46 rfl ?_
        refine g_iconst dX12_projection_48 (1 : Int32) (by decide) ?_
        refine g_iadd dX12_projection_49 ?_
        refine g_iload 3 dX12_projection_50 rfl ?_
        refine g_iconst dX12_projection_52 (1 : Int32) (by decide) ?_
        refine g_iadd dX12_projection_53 ?_
        obtain ⟨h7, hp⟩ := hp
        refine g_callV (rest := [.long x2]) s_X12_248_X12 rfl (c_X12_totals (E := E) (d := d - 1)   (by omega) (x4 + (1 : Int32)) (x4 + (1 : Int32)) v h7) (by decide : kd 559 = (0, 9)) (show 559 < 572 by decide) rfl rfl (Nat.le_of_ble_eq_true rfl) (by omega) (by decide) (by decide) dX12_projection_54 (adV ?_) axN
        refine g_i2l dX12_projection_57 ?_
        refine g_lmul dX12_projection_58 ?_
        refine g_iload 0 dX12_projection_59 rfl ?_
        refine g_i2l dX12_projection_61 ?_
        obtain ⟨h8, hp⟩ := hp
        refine g_ldiv dX12_projection_62 h8 ?_
        refine g_lstore_n [(2, .long ((x2 * ((f_X12_totals (x4 + (1 : Int32)) (x4 + (1 : Int32)) v).toInt64)) / ((f_X12_totals x4 (x4 + (1 : Int32)) v).toInt64))), (5, .int ((f_X12_totals x4 (x4 + (1 : Int32)) v))), (0, .ref (gX E + 559)), (4, .int x4)] dX12_projection_63 rfl (by decide) rfl ?_
        refine g_lv (lv' := [(0, .ref (gX E + 559)), (2, .long ((x2 * ((f_X12_totals (x4 + (1 : Int32)) (x4 + (1 : Int32)) v).toInt64)) / ((f_X12_totals x4 (x4 + (1 : Int32)) v).toInt64))), (4, .int x4)]) [2, 0, 3] rfl ?_
        exact w_X12_projection_64  hd (fun x2 x4 v => f_X12_projection_21  n x2 x4 v) (fun x2 x4 v => p_X12_projection_21   n x2 x4 v) ih ((x2 * ((f_X12_totals (x4 + (1 : Int32)) (x4 + (1 : Int32)) v).toInt64)) / ((f_X12_totals x4 (x4 + (1 : Int32)) v).toInt64)) x4 v hp hQ
def f_X12_projection_0  (x1 : Int32) (v : gV) : Int32 := f_X12_projection_21  5000 ((f_X12_total x1 ((f_X12_latest  v) - x1) v).toInt64) ((f_X12_latest  v) - x1) v
def p_X12_projection_0  (x1 : Int32) (v : gV) : Prop := (p_X12_latest  v) ∧ ((p_X12_total x1 ((f_X12_latest  v) - x1) v) ∧ ((p_X12_latest  v) ∧ (p_X12_projection_21   5000 ((f_X12_total x1 ((f_X12_latest  v) - x1) v).toInt64) ((f_X12_latest  v) - x1) v)))
set_option maxHeartbeats 4000000 in
set_option maxRecDepth 100000 in
theorem w_X12_projection_0 {E : gE} {d : Nat} {Q : gO → gS → Prop}   (hd : 3 ≤ d) (x1 : Int32) (v : gV) (hp : p_X12_projection_0   x1 v) (hQ : gqI Q v (f_X12_projection_0  x1 v)) : gG E m_X12_projection d Q 0 0 (rS v) 0 [(0, .ref (gX E + 559)), (1, .int x1)] [] := by
  refine g_aload_n 0 dX12_projection_0 rfl ?_
  refine g_iload_n 1 dX12_projection_1 rfl ?_
  refine g_aload_n 0 dX12_projection_2 rfl ?_
  obtain ⟨h1, hp⟩ := hp
  refine g_callV (rest := [.int x1, .ref (gX E + 559)]) s_X12_241_X12 rfl (c_X12_latest (E := E) (d := d - 1)   (by omega)  v h1) (by decide : kd 559 = (0, 9)) (show 559 < 572 by decide) rfl rfl (Nat.le_of_ble_eq_true rfl) (by omega) (by decide) (by decide) dX12_projection_3 (adV ?_) axN
  refine g_iload_n 1 dX12_projection_6 rfl ?_
  refine g_isub dX12_projection_7 ?_
  obtain ⟨h2, hp⟩ := hp
  refine g_callV (rest := []) s_X12_245_X12 rfl (c_X12_total (E := E) (d := d - 1)   (by omega) x1 ((f_X12_latest  v) - x1) v h2) (by decide : kd 559 = (0, 9)) (show 559 < 572 by decide) rfl rfl (Nat.le_of_ble_eq_true rfl) (by omega) (by decide) (by decide) dX12_projection_8 (adV ?_) axN
  refine g_i2l dX12_projection_11 ?_
  refine g_lstore_n [(2, .long ((f_X12_total x1 ((f_X12_latest  v) - x1) v).toInt64)), (0, .ref (gX E + 559)), (1, .int x1)] dX12_projection_12 rfl (by decide) rfl ?_
  refine g_aload_n 1 dX12_projection_13 rfl ?_
  obtain ⟨h3, hp⟩ := hp
  refine g_callV (rest := []) s_X12_241_X12 rfl (c_X12_latest (E := E) (d := d - 1)   (by omega)  v h3) (by decide : kd 559 = (0, 9)) (show 559 < 572 by decide) rfl rfl (Nat.le_of_ble_eq_true rfl) (by omega) (by decide) (by decide) dX12_projection_14 (adV ?_) axN
  refine g_iload_n 2 dX12_projection_17 rfl ?_
  refine g_isub dX12_projection_18 ?_
  refine g_istore [(4, .int ((f_X12_latest  v) - x1)), (2, .long ((f_X12_total x1 ((f_X12_latest  v) - x1) v).toInt64)), (0, .ref (gX E + 559)), (1, .int x1)] dX12_projection_19 (by decide) rfl ?_
  refine g_lv (lv' := [(0, .ref (gX E + 559)), (2, .long ((f_X12_total x1 ((f_X12_latest  v) - x1) v).toInt64)), (4, .int ((f_X12_latest  v) - x1))]) [2, 1, 0] rfl ?_
  exact w_X12_projection_21  hd    5000 ((f_X12_total x1 ((f_X12_latest  v) - x1) v).toInt64) ((f_X12_latest  v) - x1) v hp hQ
def f_X12_projection  (x1 : Int32) (v : gV) : Int32 := f_X12_projection_0 x1 v
def p_X12_projection  (x1 : Int32) (v : gV) : Prop := p_X12_projection_0 x1 v
theorem c_X12_projection {E : gE} {d : Nat}   (hd : 3 ≤ d) (x1 : Int32) (v : gV) (hp : p_X12_projection x1 v) : CT E m_X12_projection d 0 0 [.ref (gX E + 559), .int x1] (rS v) (Cq (.inl (some (.int (f_X12_projection x1 v)))) v) := CT.of ok_X12_projection rfl (Nat.le_of_ble_eq_true rfl) (w_X12_projection_0  hd x1 v hp ⟨rfl, rfl⟩)
def f_X12_projects_25  (s0 : Int32) (v : gV) : Int32 × gV := (s0, v)
def p_X12_projects_25  (s0 : Int32) (v : gV) : Prop := True
set_option maxHeartbeats 4000000 in
set_option maxRecDepth 100000 in
theorem w_X12_projects_25 {E : gE} {d : Nat} {Q : gO → gS → Prop}   (hd : 4 ≤ d) (s0 : Int32) (v : gV) (hp : p_X12_projects_25   s0 v) (hQ : gqIV Q (f_X12_projects_25  s0 v)) : gG E m_X12_projects d Q 0 0 (rS v) 25 [] [.int s0] := by
  exact g_iret rfl dX12_projects_25 hQ
def f_X12_projects_13  (x1 : Int32) (s0 : Int32) (v : gV) : Int32 × gV := if s0 ≤ 0 then (f_X12_projects_25  (f_X12_projection x1 v) v) else (f_X12_projects_25  (0 : Int32) v)
def p_X12_projects_13  (x1 : Int32) (s0 : Int32) (v : gV) : Prop := ((s0 ≤ 0) → ((p_X12_projection x1 v) ∧ (p_X12_projects_25   (f_X12_projection x1 v) v))) ∧ (¬ (s0 ≤ 0) → (p_X12_projects_25   (0 : Int32) v))
set_option maxHeartbeats 4000000 in
set_option maxRecDepth 100000 in
theorem w_X12_projects_13 {E : gE} {d : Nat} {Q : gO → gS → Prop}   (hd : 4 ≤ d) (x1 : Int32) (s0 : Int32) (v : gV) (hp : p_X12_projects_13   x1 s0 v) (hQ : gqIV Q (f_X12_projects_13  x1 s0 v)) : gG E m_X12_projects d Q 0 0 (rS v) 13 [(0, .ref (gX E + 559)), (1, .int x1)] [.int s0] := by
  refine g_if_le 20 dX12_projects_13 (by decide) (fun h4 => ?_) (fun h4 => ?_)
  · have hQ := qp (P := gqIV Q) h4 hQ
    have hp := hp.1 h4
    refine g_aload_n 0 dX12_projects_20 rfl ?_
    refine g_iload_n 1 dX12_projects_21 rfl ?_
    obtain ⟨h5, hp⟩ := hp
    refine g_callV (rest := []) s_X12_251_X12 rfl (c_X12_projection (E := E) (d := d - 1)   (by omega) x1 v h5) (by decide : kd 559 = (0, 9)) (show 559 < 572 by decide) rfl rfl (Nat.le_of_ble_eq_true rfl) (by omega) (by decide) (by decide) dX12_projects_22 (adV ?_) axN
    refine g_lv (lv' := []) [] rfl ?_
    exact w_X12_projects_25  hd    (f_X12_projection x1 v) v hp hQ
  · have hQ := qn (P := gqIV Q) h4 hQ
    have hp := hp.2 h4
    refine g_iconst dX12_projects_16 (0 : Int32) (by decide) ?_
    refine g_goto 25 dX12_projects_17 (by decide) ?_
    refine g_lv (lv' := []) [] rfl ?_
    exact w_X12_projects_25  hd    (0 : Int32) v hp hQ
def f_X12_projects_0  (x1 : Int32) (v : gV) : Int32 × gV := f_X12_projects_13  x1 ((f_X12_checked (f_X12_in x1 (0 : Int32) (f_X12_latest  v) v) v).1) (f_X12_checked (f_X12_in x1 (0 : Int32) (f_X12_latest  v) v) v).2
def p_X12_projects_0  (x1 : Int32) (v : gV) : Prop := (p_X12_latest  v) ∧ ((p_X12_in x1 (0 : Int32) (f_X12_latest  v) v) ∧ ((p_X12_checked (f_X12_in x1 (0 : Int32) (f_X12_latest  v) v) v) ∧ (p_X12_projects_13   x1 ((f_X12_checked (f_X12_in x1 (0 : Int32) (f_X12_latest  v) v) v).1) (f_X12_checked (f_X12_in x1 (0 : Int32) (f_X12_latest  v) v) v).2)))
set_option maxHeartbeats 4000000 in
set_option maxRecDepth 100000 in
theorem w_X12_projects_0 {E : gE} {d : Nat} {Q : gO → gS → Prop}   (hd : 4 ≤ d) (x1 : Int32) (v : gV) (hp : p_X12_projects_0   x1 v) (hQ : gqIV Q (f_X12_projects_0  x1 v)) : gG E m_X12_projects d Q 0 0 (rS v) 0 [(0, .ref (gX E + 559)), (1, .int x1)] [] := by
  refine g_aload_n 0 dX12_projects_0 rfl ?_
  refine g_iload_n 1 dX12_projects_1 rfl ?_
  refine g_iconst dX12_projects_2 (0 : Int32) (by decide) ?_
  refine g_aload_n 0 dX12_projects_3 rfl ?_
  obtain ⟨h1, hp⟩ := hp
  refine g_callV (rest := [.int ((0 : Int32)), .int x1, .ref (gX E + 559)]) s_X12_241_X12 rfl (c_X12_latest (E := E) (d := d - 1)   (by omega)  v h1) (by decide : kd 559 = (0, 9)) (show 559 < 572 by decide) rfl rfl (Nat.le_of_ble_eq_true rfl) (by omega) (by decide) (by decide) dX12_projects_4 (adV ?_) axN
  obtain ⟨h2, hp⟩ := hp
  refine g_callS (rest := [.ref (gX E + 559)]) s_X12_83 rfl (c_X12_in (E := E) (d := d - 1)   (by omega) x1 (0 : Int32) (f_X12_latest  v) v h2) rfl rfl (Nat.le_of_ble_eq_true rfl) (by omega) (by decide) (by decide) dX12_projects_7 (adV ?_) axN
  obtain ⟨h3, hp⟩ := hp
  refine g_callV (rest := []) s_X12_213_X12 rfl (c_X12_checked (E := E) (d := d - 1)   (by omega) (f_X12_in x1 (0 : Int32) (f_X12_latest  v) v) v h3) (by decide : kd 559 = (0, 9)) (show 559 < 572 by decide) rfl rfl (Nat.le_of_ble_eq_true rfl) (by omega) (by decide) (by decide) dX12_projects_10 (adV ?_) axN
  exact w_X12_projects_13  hd    x1 ((f_X12_checked (f_X12_in x1 (0 : Int32) (f_X12_latest  v) v) v).1) (f_X12_checked (f_X12_in x1 (0 : Int32) (f_X12_latest  v) v) v).2 hp hQ
def f_X12_projects  (x1 : Int32) (v : gV) : Int32 × gV := f_X12_projects_0 x1 v
def p_X12_projects  (x1 : Int32) (v : gV) : Prop := p_X12_projects_0 x1 v
theorem c_X12_projects {E : gE} {d : Nat}   (hd : 4 ≤ d) (x1 : Int32) (v : gV) (hp : p_X12_projects x1 v) : CT E m_X12_projects d 0 0 [.ref (gX E + 559), .int x1] (rS v) (Cq (.inl (some (.int ((f_X12_projects x1 v).1)))) (f_X12_projects x1 v).2) := CT.of ok_X12_projects rfl (Nat.le_of_ble_eq_true rfl) (w_X12_projects_0  hd x1 v hp ⟨rfl, rfl⟩)
def f_X12_projected_5  (s0 : Int32) (v : gV) : Int32 × gV := (s0, v)
def p_X12_projected_5  (s0 : Int32) (v : gV) : Prop := True
set_option maxHeartbeats 4000000 in
set_option maxRecDepth 100000 in
theorem w_X12_projected_5 {E : gE} {d : Nat} {Q : gO → gS → Prop}   (hd : 5 ≤ d) (s0 : Int32) (v : gV) (hp : p_X12_projected_5   s0 v) (hQ : gqIV Q (f_X12_projected_5  s0 v)) : gG E m_X12_projected d Q 0 0 (rS v) 5 [] [.int s0] := by
  exact g_iret rfl dX12_projected_5 hQ
def f_X12_projected_0  (x1 : Int32) (v : gV) : Int32 × gV := f_X12_projected_5  ((f_X12_projects x1 v).1) (f_X12_projects x1 v).2
def p_X12_projected_0  (x1 : Int32) (v : gV) : Prop := (p_X12_projects x1 v) ∧ (p_X12_projected_5   ((f_X12_projects x1 v).1) (f_X12_projects x1 v).2)
set_option maxHeartbeats 4000000 in
set_option maxRecDepth 100000 in
theorem w_X12_projected_0 {E : gE} {d : Nat} {Q : gO → gS → Prop}   (hd : 5 ≤ d) (x1 : Int32) (v : gV) (hp : p_X12_projected_0   x1 v) (hQ : gqIV Q (f_X12_projected_0  x1 v)) : gG E m_X12_projected d Q 0 0 (rS v) 0 [(0, .ref (gX E + 559)), (1, .int x1)] [] := by
  refine g_aload_n 0 dX12_projected_0 rfl ?_
  refine g_iload_n 1 dX12_projected_1 rfl ?_
  obtain ⟨h1, hp⟩ := hp
  refine g_callV (rest := []) s_X12_254_X12 rfl (c_X12_projects (E := E) (d := d - 1)   (by omega) x1 v h1) (by decide : kd 559 = (0, 9)) (show 559 < 572 by decide) rfl rfl (Nat.le_of_ble_eq_true rfl) (by omega) (by decide) (by decide) dX12_projected_2 (adV ?_) axN
  refine g_lv (lv' := []) [] rfl ?_
  exact w_X12_projected_5  hd    ((f_X12_projects x1 v).1) (f_X12_projects x1 v).2 hp hQ
def f_X12_projected  (x1 : Int32) (v : gV) : Int32 × gV := f_X12_projected_0 x1 v
def p_X12_projected  (x1 : Int32) (v : gV) : Prop := p_X12_projected_0 x1 v
theorem c_X12_projected {E : gE} {d : Nat}   (hd : 5 ≤ d) (x1 : Int32) (v : gV) (hp : p_X12_projected x1 v) : CT E m_X12_projected d 0 0 [.ref (gX E + 559), .int x1] (rS v) (Cq (.inl (some (.int ((f_X12_projected x1 v).1)))) (f_X12_projected x1 v).2) := CT.of ok_X12_projected rfl (Nat.le_of_ble_eq_true rfl) (w_X12_projected_0  hd x1 v hp ⟨rfl, rfl⟩)
def f_X12_projectedByRecursion_5  (s0 : Int32) (v : gV) : Int32 × gV := (s0, v)
def p_X12_projectedByRecursion_5  (s0 : Int32) (v : gV) : Prop := True
set_option maxHeartbeats 4000000 in
set_option maxRecDepth 100000 in
theorem w_X12_projectedByRecursion_5 {E : gE} {d : Nat} {Q : gO → gS → Prop}   (hd : 5 ≤ d) (s0 : Int32) (v : gV) (hp : p_X12_projectedByRecursion_5   s0 v) (hQ : gqIV Q (f_X12_projectedByRecursion_5  s0 v)) : gG E m_X12_projectedByRecursion d Q 0 0 (rS v) 5 [] [.int s0] := by
  exact g_iret rfl dX12_projectedByRecursion_5 hQ
def f_X12_projectedByRecursion_0  (x1 : Int32) (v : gV) : Int32 × gV := f_X12_projectedByRecursion_5  ((f_X12_projects x1 v).1) (f_X12_projects x1 v).2
def p_X12_projectedByRecursion_0  (x1 : Int32) (v : gV) : Prop := (p_X12_projects x1 v) ∧ (p_X12_projectedByRecursion_5   ((f_X12_projects x1 v).1) (f_X12_projects x1 v).2)
set_option maxHeartbeats 4000000 in
set_option maxRecDepth 100000 in
theorem w_X12_projectedByRecursion_0 {E : gE} {d : Nat} {Q : gO → gS → Prop}   (hd : 5 ≤ d) (x1 : Int32) (v : gV) (hp : p_X12_projectedByRecursion_0   x1 v) (hQ : gqIV Q (f_X12_projectedByRecursion_0  x1 v)) : gG E m_X12_projectedByRecursion d Q 0 0 (rS v) 0 [(0, .ref (gX E + 559)), (1, .int x1)] [] := by
  refine g_aload_n 0 dX12_projectedByRecursion_0 rfl ?_
  refine g_iload_n 1 dX12_projectedByRecursion_1 rfl ?_
  obtain ⟨h1, hp⟩ := hp
  refine g_callV (rest := []) s_X12_254_X12 rfl (c_X12_projects (E := E) (d := d - 1)   (by omega) x1 v h1) (by decide : kd 559 = (0, 9)) (show 559 < 572 by decide) rfl rfl (Nat.le_of_ble_eq_true rfl) (by omega) (by decide) (by decide) dX12_projectedByRecursion_2 (adV ?_) axN
  refine g_lv (lv' := []) [] rfl ?_
  exact w_X12_projectedByRecursion_5  hd    ((f_X12_projects x1 v).1) (f_X12_projects x1 v).2 hp hQ
def f_X12_projectedByRecursion  (x1 : Int32) (v : gV) : Int32 × gV := f_X12_projectedByRecursion_0 x1 v
def p_X12_projectedByRecursion  (x1 : Int32) (v : gV) : Prop := p_X12_projectedByRecursion_0 x1 v
theorem c_X12_projectedByRecursion {E : gE} {d : Nat}   (hd : 5 ≤ d) (x1 : Int32) (v : gV) (hp : p_X12_projectedByRecursion x1 v) : CT E m_X12_projectedByRecursion d 0 0 [.ref (gX E + 559), .int x1] (rS v) (Cq (.inl (some (.int ((f_X12_projectedByRecursion x1 v).1)))) (f_X12_projectedByRecursion x1 v).2) := CT.of ok_X12_projectedByRecursion rfl (Nat.le_of_ble_eq_true rfl) (w_X12_projectedByRecursion_0  hd x1 v hp ⟨rfl, rfl⟩)
def f_X12_reserve_9  : Nat → Int32 → Int32 → gV → Int32 × gV
  | 0, _, _, v => (0, v)
  | n + 1, x1, x2, v => if (f_X12_latest  v) < x2 then ((x1, v)) else (f_X12_reserve_9  n (x1 + ((f_X12_projection x2 v) - (f_X12_total x2 (5 : Int32) v))) (x2 + 1) v)
def p_X12_reserve_9  : Nat → Int32 → Int32 → gV → Prop
  | 0, _, _, _ => False
  | n + 1, x1, x2, v => (p_X12_latest  v) ∧ ((((f_X12_latest  v) < x2) → (True)) ∧ (¬ ((f_X12_latest  v) < x2) → ((p_X12_projection x2 v) ∧ ((p_X12_total x2 (5 : Int32) v) ∧ (p_X12_reserve_9   n (x1 + ((f_X12_projection x2 v) - (f_X12_total x2 (5 : Int32) v))) (x2 + 1) v)))))
set_option maxHeartbeats 4000000 in
set_option maxRecDepth 100000 in
theorem w_X12_reserve_9 {E : gE} {d : Nat} {Q : gO → gS → Prop}   (hd : 4 ≤ d) : ∀ (n : Nat) (x1 : Int32) (x2 : Int32) (v : gV), p_X12_reserve_9   n x1 x2 v → gqIV Q (f_X12_reserve_9  n x1 x2 v) → gG E m_X12_reserve d Q 0 0 (rS v) 9 [(0, .ref (gX E + 559)), (1, .int x1), (2, .int x2)] [] := by
  intro n
  induction n with
  | zero => intro x1 x2 v hp; exact hp.elim
  | succ n ih =>
    intro x1 x2 v hp hQ
    refine g_iload_n 2 dX12_reserve_9 rfl ?_
    refine g_aload_n 0 dX12_reserve_10 rfl ?_
    obtain ⟨h1, hp⟩ := hp
    refine g_callV (rest := [.int x2]) s_X12_241_X12 rfl (c_X12_latest (E := E) (d := d - 1)   (by omega)  v h1) (by decide : kd 559 = (0, 9)) (show 559 < 572 by decide) rfl rfl (Nat.le_of_ble_eq_true rfl) (by omega) (by decide) (by decide) dX12_reserve_11 (adV ?_) axN
    refine g_icmp_gt 38 dX12_reserve_14 (by decide) (fun h2 => ?_) (fun h2 => ?_)
    · have hQ := qp (P := gqIV Q) h2 hQ
      have hp := hp.1 h2
      refine g_iload_n 1 dX12_reserve_38 rfl ?_
      exact g_iret rfl dX12_reserve_39 hQ
    · have hQ := qn (P := gqIV Q) h2 hQ
      have hp := hp.2 h2
      refine g_iload_n 1 dX12_reserve_17 rfl ?_
      refine g_aload_n 0 dX12_reserve_18 rfl ?_
      refine g_iload_n 2 dX12_reserve_19 rfl ?_
      obtain ⟨h3, hp⟩ := hp
      refine g_callV (rest := [.int x1]) s_X12_251_X12 rfl (c_X12_projection (E := E) (d := d - 1)   (by omega) x2 v h3) (by decide : kd 559 = (0, 9)) (show 559 < 572 by decide) rfl rfl (Nat.le_of_ble_eq_true rfl) (by omega) (by decide) (by decide) dX12_reserve_20 (adV ?_) axN
      refine g_aload_n 0 dX12_reserve_23 rfl ?_
      refine g_iload_n 2 dX12_reserve_24 rfl ?_
      refine g_iconst dX12_reserve_25 (5 : Int32) (by decide) ?_
      obtain ⟨h4, hp⟩ := hp
      refine g_callV (rest := [.int ((f_X12_projection x2 v)), .int x1]) s_X12_245_X12 rfl (c_X12_total (E := E) (d := d - 1)   (by omega) x2 (5 : Int32) v h4) (by decide : kd 559 = (0, 9)) (show 559 < 572 by decide) rfl rfl (Nat.le_of_ble_eq_true rfl) (by omega) (by decide) (by decide) dX12_reserve_26 (adV ?_) axN
      refine g_isub dX12_reserve_29 ?_
      refine g_iadd dX12_reserve_30 ?_
      refine g_istore_n [(1, .int (x1 + ((f_X12_projection x2 v) - (f_X12_total x2 (5 : Int32) v)))), (0, .ref (gX E + 559)), (2, .int x2)] dX12_reserve_31 rfl (by decide) rfl ?_
      refine g_iinc 2 (x2 + 1) [(2, .int (x2 + 1)), (1, .int (x1 + ((f_X12_projection x2 v) - (f_X12_total x2 (5 : Int32) v)))), (0, .ref (gX E + 559))] dX12_reserve_32 rfl rfl (by decide) rfl ?_
      refine g_goto 9 dX12_reserve_35 (by decide) ?_
      refine g_lv (lv' := [(0, .ref (gX E + 559)), (1, .int (x1 + ((f_X12_projection x2 v) - (f_X12_total x2 (5 : Int32) v)))), (2, .int (x2 + 1))]) [2, 1, 0] rfl ?_
      exact ih (x1 + ((f_X12_projection x2 v) - (f_X12_total x2 (5 : Int32) v))) (x2 + 1) v hp hQ
def f_X12_reserve_5   (v : gV) : Int32 × gV := f_X12_reserve_9  5000 (0 : Int32) (0 : Int32) v
def p_X12_reserve_5   (v : gV) : Prop := p_X12_reserve_9   5000 (0 : Int32) (0 : Int32) v
set_option maxHeartbeats 4000000 in
set_option maxRecDepth 100000 in
theorem w_X12_reserve_5 {E : gE} {d : Nat} {Q : gO → gS → Prop}   (hd : 4 ≤ d)  (v : gV) (hp : p_X12_reserve_5    v) (hQ : gqIV Q (f_X12_reserve_5   v)) : gG E m_X12_reserve d Q 0 0 (rS v) 5 [(0, .ref (gX E + 559))] [] := by
  refine g_iconst dX12_reserve_5 (0 : Int32) (by decide) ?_
  refine g_istore_n [(1, .int ((0 : Int32))), (0, .ref (gX E + 559))] dX12_reserve_6 rfl (by decide) rfl ?_
  refine g_iconst dX12_reserve_7 (0 : Int32) (by decide) ?_
  refine g_istore_n [(2, .int ((0 : Int32))), (1, .int ((0 : Int32))), (0, .ref (gX E + 559))] dX12_reserve_8 rfl (by decide) rfl ?_
  refine g_lv (lv' := [(0, .ref (gX E + 559)), (1, .int ((0 : Int32))), (2, .int ((0 : Int32)))]) [2, 1, 0] rfl ?_
  exact w_X12_reserve_9  hd    5000 (0 : Int32) (0 : Int32) v hp hQ
def f_X12_reserve_0   (v : gV) : Int32 × gV := f_X12_reserve_5   (vM v 559 6 (0 : Int32))
def p_X12_reserve_0   (v : gV) : Prop := p_X12_reserve_5    (vM v 559 6 (0 : Int32))
set_option maxHeartbeats 4000000 in
set_option maxRecDepth 100000 in
theorem w_X12_reserve_0 {E : gE} {d : Nat} {Q : gO → gS → Prop}   (hd : 4 ≤ d)  (v : gV) (hp : p_X12_reserve_0    v) (hQ : gqIV Q (f_X12_reserve_0   v)) : gG E m_X12_reserve d Q 0 0 (rS v) 0 [(0, .ref (gX E + 559))] [] := by
  refine g_aload_n 0 dX12_reserve_0 rfl ?_
  refine g_iconst dX12_reserve_1 (0 : Int32) (by decide) ?_
  refine r_put pf_X12_28_X12 rfl (by decide : kd 559 = (0, 9)) (by decide) (by decide) rfl (show 559 < 572 by decide) rfl rfl dX12_reserve_2 ?_
  exact w_X12_reserve_5  hd     (vM v 559 6 (0 : Int32)) hp hQ
def f_X12_reserve   (v : gV) : Int32 × gV := f_X12_reserve_0  v
def p_X12_reserve   (v : gV) : Prop := p_X12_reserve_0  v
theorem c_X12_reserve {E : gE} {d : Nat}   (hd : 4 ≤ d)  (v : gV) (hp : p_X12_reserve  v) : CT E m_X12_reserve d 0 0 [.ref (gX E + 559)] (rS v) (Cq (.inl (some (.int ((f_X12_reserve  v).1)))) (f_X12_reserve  v).2) := CT.of ok_X12_reserve rfl (Nat.le_of_ble_eq_true rfl) (w_X12_reserve_0  hd  v hp ⟨rfl, rfl⟩)
def f_X12_offerCount_10  (s0 : Int32) (v : gV) : Int32 × gV := (s0, v)
def p_X12_offerCount_10  (s0 : Int32) (v : gV) : Prop := True
set_option maxHeartbeats 4000000 in
set_option maxRecDepth 100000 in
theorem w_X12_offerCount_10 {E : gE} {d : Nat} {Q : gO → gS → Prop}   (hd : 1 ≤ d) (s0 : Int32) (v : gV) (hp : p_X12_offerCount_10   s0 v) (hQ : gqIV Q (f_X12_offerCount_10  s0 v)) : gG E m_X12_offerCount d Q 0 0 (rS v) 10 [] [.int s0] := by
  exact g_iret rfl dX12_offerCount_10 hQ
def f_X12_offerCount_0   (v : gV) : Int32 × gV := f_X12_offerCount_10  ((f_X12_plain (v.1 560 (3 : Int32).toNatClampNeg) v).1) (f_X12_plain (v.1 560 (3 : Int32).toNatClampNeg) v).2
def p_X12_offerCount_0   (v : gV) : Prop := (p_X12_plain (v.1 560 (3 : Int32).toNatClampNeg) v) ∧ (p_X12_offerCount_10   ((f_X12_plain (v.1 560 (3 : Int32).toNatClampNeg) v).1) (f_X12_plain (v.1 560 (3 : Int32).toNatClampNeg) v).2)
set_option maxHeartbeats 4000000 in
set_option maxRecDepth 100000 in
theorem w_X12_offerCount_0 {E : gE} {d : Nat} {Q : gO → gS → Prop}   (hd : 1 ≤ d)  (v : gV) (hp : p_X12_offerCount_0    v) (hQ : gqIV Q (f_X12_offerCount_0   v)) : gG E m_X12_offerCount d Q 0 0 (rS v) 0 [(0, .ref (gX E + 559))] [] := by
  refine g_aload_n 0 dX12_offerCount_0 rfl ?_
  refine g_aload_n 0 dX12_offerCount_1 rfl ?_
  refine r_get (.ref (gX E + 560)) f_X12_7_X12 rfl (by decide : kd 559 = (0, 9)) (show 559 < 572 by decide) dX12_offerCount_2 (fun _ => rfl) ?_
  refine g_iconst dX12_offerCount_5 (3 : Int32) (by decide) ?_
  refine g_iald (by decide : kd 560 = (1, 300)) (show 560 < 572 by decide) (show ¬ (_ ∨ _) by decide) dX12_offerCount_6 ?_
  obtain ⟨h1, hp⟩ := hp
  refine g_callV (rest := []) s_X12_210_X12 rfl (c_X12_plain (E := E) (d := d - 1)   (by omega) (v.1 560 (3 : Int32).toNatClampNeg) v h1) (by decide : kd 559 = (0, 9)) (show 559 < 572 by decide) rfl rfl (Nat.le_of_ble_eq_true rfl) (by omega) (by decide) (by decide) dX12_offerCount_7 (adV ?_) axN
  refine g_lv (lv' := []) [] rfl ?_
  exact w_X12_offerCount_10  hd    ((f_X12_plain (v.1 560 (3 : Int32).toNatClampNeg) v).1) (f_X12_plain (v.1 560 (3 : Int32).toNatClampNeg) v).2 hp hQ
def f_X12_offerCount   (v : gV) : Int32 × gV := f_X12_offerCount_0  v
def p_X12_offerCount   (v : gV) : Prop := p_X12_offerCount_0  v
theorem c_X12_offerCount {E : gE} {d : Nat}   (hd : 1 ≤ d)  (v : gV) (hp : p_X12_offerCount  v) : CT E m_X12_offerCount d 0 0 [.ref (gX E + 559)] (rS v) (Cq (.inl (some (.int ((f_X12_offerCount  v).1)))) (f_X12_offerCount  v).2) := CT.of ok_X12_offerCount rfl (Nat.le_of_ble_eq_true rfl) (w_X12_offerCount_0  hd  v hp ⟨rfl, rfl⟩)
def f_X12_isCovered_42  (K2 : Int32 → Int32 → Int32 → gV → Int32)  (x1 : Int32) (x2 : Int32) (x3 : Int32) (v : gV) : Int32 := K2 x1 x2 (x3 + 1) v
def p_X12_isCovered_42  (K2 : Int32 → Int32 → Int32 → gV → Int32)  (PK2 : Int32 → Int32 → Int32 → gV → Prop)  (x1 : Int32) (x2 : Int32) (x3 : Int32) (v : gV) : Prop := PK2 x1 x2 (x3 + 1) v
set_option maxHeartbeats 4000000 in
set_option maxRecDepth 100000 in
theorem w_X12_isCovered_42 {E : gE} {d : Nat} {Q : gO → gS → Prop}   (hd : 1 ≤ d) (K2 : Int32 → Int32 → Int32 → gV → Int32)  (PK2 : Int32 → Int32 → Int32 → gV → Prop)  (hK2 : ∀ (x1 : Int32) (x2 : Int32) (x3 : Int32) (v : gV), PK2 x1 x2 x3 v → gqI Q v (K2 x1 x2 x3 v) → gG E m_X12_isCovered d Q 0 0 (rS v) 2 [(0, .ref (gX E + 559)), (1, .int x1), (2, .int x2), (3, .int x3)] [])  (x1 : Int32) (x2 : Int32) (x3 : Int32) (v : gV) (hp : p_X12_isCovered_42 K2 PK2 x1 x2 x3 v) (hQ : gqI Q v (f_X12_isCovered_42 K2 x1 x2 x3 v)) : gG E m_X12_isCovered d Q 0 0 (rS v) 42 [(0, .ref (gX E + 559)), (1, .int x1), (2, .int x2), (3, .int x3)] [] := by
  refine g_iinc 3 (x3 + 1) [(3, .int (x3 + 1)), (0, .ref (gX E + 559)), (1, .int x1), (2, .int x2)] dX12_isCovered_42 rfl rfl (by decide) rfl ?_
  refine g_goto 2 dX12_isCovered_45 (by decide) ?_
  refine g_lv (lv' := [(0, .ref (gX E + 559)), (1, .int x1), (2, .int x2), (3, .int (x3 + 1))]) [1, 2, 3, 0] rfl ?_
  exact hK2 x1 x2 (x3 + 1) v hp hQ
def f_X12_isCovered_2  : Nat → Int32 → Int32 → Int32 → gV → Int32
  | 0, _, _, _, v => 0
  | n + 1, x1, x2, x3, v => if (v.1 560 (3 : Int32).toNatClampNeg) ≤ x3 then ((0 : Int32)) else (if ((x1 >>> (x3 &&& 31)) &&& (1 : Int32)) = (1 : Int32) then (if (f_X12_in x2 (f_X12_o x3 (0 : Int32) v) (f_X12_o x3 (1 : Int32) v) v) = 0 then (f_X12_isCovered_42 (fun x1 x2 x3 v => f_X12_isCovered_2  n x1 x2 x3 v) x1 x2 x3 v) else ((1 : Int32))) else (f_X12_isCovered_42 (fun x1 x2 x3 v => f_X12_isCovered_2  n x1 x2 x3 v) x1 x2 x3 v))
def p_X12_isCovered_2  : Nat → Int32 → Int32 → Int32 → gV → Prop
  | 0, _, _, _, _ => False
  | n + 1, x1, x2, x3, v => (((v.1 560 (3 : Int32).toNatClampNeg) ≤ x3) → (True)) ∧ (¬ ((v.1 560 (3 : Int32).toNatClampNeg) ≤ x3) → (((((x1 >>> (x3 &&& 31)) &&& (1 : Int32)) = (1 : Int32)) → ((p_X12_o x3 (0 : Int32) v) ∧ ((p_X12_o x3 (1 : Int32) v) ∧ ((p_X12_in x2 (f_X12_o x3 (0 : Int32) v) (f_X12_o x3 (1 : Int32) v) v) ∧ ((((f_X12_in x2 (f_X12_o x3 (0 : Int32) v) (f_X12_o x3 (1 : Int32) v) v) = 0) → (p_X12_isCovered_42 (fun x1 x2 x3 v => f_X12_isCovered_2  n x1 x2 x3 v) (fun x1 x2 x3 v => p_X12_isCovered_2   n x1 x2 x3 v) x1 x2 x3 v)) ∧ (¬ ((f_X12_in x2 (f_X12_o x3 (0 : Int32) v) (f_X12_o x3 (1 : Int32) v) v) = 0) → (True))))))) ∧ (¬ (((x1 >>> (x3 &&& 31)) &&& (1 : Int32)) = (1 : Int32)) → (p_X12_isCovered_42 (fun x1 x2 x3 v => f_X12_isCovered_2  n x1 x2 x3 v) (fun x1 x2 x3 v => p_X12_isCovered_2   n x1 x2 x3 v) x1 x2 x3 v))))
set_option maxHeartbeats 4000000 in
set_option maxRecDepth 100000 in
theorem w_X12_isCovered_2 {E : gE} {d : Nat} {Q : gO → gS → Prop}   (hd : 1 ≤ d) : ∀ (n : Nat) (x1 : Int32) (x2 : Int32) (x3 : Int32) (v : gV), p_X12_isCovered_2   n x1 x2 x3 v → gqI Q v (f_X12_isCovered_2  n x1 x2 x3 v) → gG E m_X12_isCovered d Q 0 0 (rS v) 2 [(0, .ref (gX E + 559)), (1, .int x1), (2, .int x2), (3, .int x3)] [] := by
  intro n
  induction n with
  | zero => intro x1 x2 x3 v hp; exact hp.elim
  | succ n ih =>
    intro x1 x2 x3 v hp hQ
    refine g_iload_n 3 dX12_isCovered_2 rfl ?_
    refine g_aload_n 0 dX12_isCovered_3 rfl ?_
    refine r_get (.ref (gX E + 560)) f_X12_7_X12 rfl (by decide : kd 559 = (0, 9)) (show 559 < 572 by decide) dX12_isCovered_4 (fun _ => rfl) ?_
    refine g_iconst dX12_isCovered_7 (3 : Int32) (by decide) ?_
    refine g_iald (by decide : kd 560 = (1, 300)) (show 560 < 572 by decide) (show ¬ (_ ∨ _) by decide) dX12_isCovered_8 ?_
    refine g_icmp_ge 48 dX12_isCovered_9 (by decide) (fun h1 => ?_) (fun h1 => ?_)
    · have hQ := qp (P := gqI Q v) h1 hQ
      have hp := hp.1 h1
      refine g_iconst dX12_isCovered_48 (0 : Int32) (by decide) ?_
      exact g_zret rfl rfl dX12_isCovered_49 hQ
    · have hQ := qn (P := gqI Q v) h1 hQ
      have hp := hp.2 h1
      refine g_iload_n 1 dX12_isCovered_12 rfl ?_
      refine g_iload_n 3 dX12_isCovered_13 rfl ?_
      refine g_ishr dX12_isCovered_14 ?_
      refine g_iconst dX12_isCovered_15 (1 : Int32) (by decide) ?_
      refine g_iand dX12_isCovered_16 ?_
      refine g_iconst dX12_isCovered_17 (1 : Int32) (by decide) ?_
      refine g_icmp_ne 42 dX12_isCovered_18 (by decide) (fun h2 => ?_) (fun h2 => ?_)
      · have hQ := qn (P := gqI Q v) h2 hQ
        have hp := hp.2 h2
        exact w_X12_isCovered_42  hd (fun x1 x2 x3 v => f_X12_isCovered_2  n x1 x2 x3 v) (fun x1 x2 x3 v => p_X12_isCovered_2   n x1 x2 x3 v) ih x1 x2 x3 v hp hQ
      · have hQ := qp (P := gqI Q v) h2 hQ
        have hp := hp.1 h2
        refine g_iload_n 2 dX12_isCovered_21 rfl ?_
        refine g_aload_n 0 dX12_isCovered_22 rfl ?_
        refine g_iload_n 3 dX12_isCovered_23 rfl ?_
        refine g_iconst dX12_isCovered_24 (0 : Int32) (by decide) ?_
        obtain ⟨h3, hp⟩ := hp
        refine g_callV (rest := [.int x2]) s_X12_201_X12 rfl (c_X12_o (E := E) (d := d - 1)   (by omega) x3 (0 : Int32) v h3) (by decide : kd 559 = (0, 9)) (show 559 < 572 by decide) rfl rfl (Nat.le_of_ble_eq_true rfl) (by omega) (by decide) (by decide) dX12_isCovered_25 (adV ?_) axN
        refine g_aload_n 0 dX12_isCovered_28 rfl ?_
        refine g_iload_n 3 dX12_isCovered_29 rfl ?_
        refine g_iconst dX12_isCovered_30 (1 : Int32) (by decide) ?_
        obtain ⟨h4, hp⟩ := hp
        refine g_callV (rest := [.int ((f_X12_o x3 (0 : Int32) v)), .int x2]) s_X12_201_X12 rfl (c_X12_o (E := E) (d := d - 1)   (by omega) x3 (1 : Int32) v h4) (by decide : kd 559 = (0, 9)) (show 559 < 572 by decide) rfl rfl (Nat.le_of_ble_eq_true rfl) (by omega) (by decide) (by decide) dX12_isCovered_31 (adV ?_) axN
        obtain ⟨h5, hp⟩ := hp
        refine g_callS (rest := []) s_X12_83 rfl (c_X12_in (E := E) (d := d - 1)   (by omega) x2 (f_X12_o x3 (0 : Int32) v) (f_X12_o x3 (1 : Int32) v) v h5) rfl rfl (Nat.le_of_ble_eq_true rfl) (by omega) (by decide) (by decide) dX12_isCovered_34 (adV ?_) axN
        refine g_if_eq 42 dX12_isCovered_37 (by decide) (fun h6 => ?_) (fun h6 => ?_)
        · have hQ := qp (P := gqI Q v) h6 hQ
          have hp := hp.1 h6
          exact w_X12_isCovered_42  hd (fun x1 x2 x3 v => f_X12_isCovered_2  n x1 x2 x3 v) (fun x1 x2 x3 v => p_X12_isCovered_2   n x1 x2 x3 v) ih x1 x2 x3 v hp hQ
        · have hQ := qn (P := gqI Q v) h6 hQ
          have hp := hp.2 h6
          refine g_iconst dX12_isCovered_40 (1 : Int32) (by decide) ?_
          exact g_zret rfl rfl dX12_isCovered_41 hQ
def f_X12_isCovered_0  (x1 : Int32) (x2 : Int32) (v : gV) : Int32 := f_X12_isCovered_2  5000 x1 x2 (0 : Int32) v
def p_X12_isCovered_0  (x1 : Int32) (x2 : Int32) (v : gV) : Prop := p_X12_isCovered_2   5000 x1 x2 (0 : Int32) v
set_option maxHeartbeats 4000000 in
set_option maxRecDepth 100000 in
theorem w_X12_isCovered_0 {E : gE} {d : Nat} {Q : gO → gS → Prop}   (hd : 1 ≤ d) (x1 : Int32) (x2 : Int32) (v : gV) (hp : p_X12_isCovered_0   x1 x2 v) (hQ : gqI Q v (f_X12_isCovered_0  x1 x2 v)) : gG E m_X12_isCovered d Q 0 0 (rS v) 0 [(0, .ref (gX E + 559)), (1, .int x1), (2, .int x2)] [] := by
  refine g_iconst dX12_isCovered_0 (0 : Int32) (by decide) ?_
  refine g_istore_n [(3, .int ((0 : Int32))), (0, .ref (gX E + 559)), (1, .int x1), (2, .int x2)] dX12_isCovered_1 rfl (by decide) rfl ?_
  refine g_lv (lv' := [(0, .ref (gX E + 559)), (1, .int x1), (2, .int x2), (3, .int ((0 : Int32)))]) [1, 2, 3, 0] rfl ?_
  exact w_X12_isCovered_2  hd    5000 x1 x2 (0 : Int32) v hp hQ
def f_X12_isCovered  (x1 : Int32) (x2 : Int32) (v : gV) : Int32 := f_X12_isCovered_0 x1 x2 v
def p_X12_isCovered  (x1 : Int32) (x2 : Int32) (v : gV) : Prop := p_X12_isCovered_0 x1 x2 v
theorem c_X12_isCovered {E : gE} {d : Nat}   (hd : 1 ≤ d) (x1 : Int32) (x2 : Int32) (v : gV) (hp : p_X12_isCovered x1 x2 v) : CT E m_X12_isCovered d 0 0 [.ref (gX E + 559), .int x1, .int x2] (rS v) (Cq (.inl (some (.int (f_X12_isCovered x1 x2 v)))) v) := CT.of ok_X12_isCovered rfl (Nat.le_of_ble_eq_true rfl) (w_X12_isCovered_0  hd x1 x2 v hp ⟨rfl, rfl⟩)
def f_X12_areCovered_3  : Nat → Int32 → Int32 → Int32 → gV → Int32
  | 0, _, _, _, v => 0
  | n + 1, x1, x3, x4, v => if x3 < x4 then ((1 : Int32)) else (if (f_X12_isCovered x1 x4 v) = 0 then ((0 : Int32)) else (f_X12_areCovered_3  n x1 x3 (x4 + 1) v))
def p_X12_areCovered_3  : Nat → Int32 → Int32 → Int32 → gV → Prop
  | 0, _, _, _, _ => False
  | n + 1, x1, x3, x4, v => ((x3 < x4) → (True)) ∧ (¬ (x3 < x4) → ((p_X12_isCovered x1 x4 v) ∧ ((((f_X12_isCovered x1 x4 v) = 0) → (True)) ∧ (¬ ((f_X12_isCovered x1 x4 v) = 0) → (p_X12_areCovered_3   n x1 x3 (x4 + 1) v)))))
set_option maxHeartbeats 4000000 in
set_option maxRecDepth 100000 in
theorem w_X12_areCovered_3 {E : gE} {d : Nat} {Q : gO → gS → Prop}   (hd : 2 ≤ d) : ∀ (n : Nat) (x1 : Int32) (x3 : Int32) (x4 : Int32) (v : gV), p_X12_areCovered_3   n x1 x3 x4 v → gqI Q v (f_X12_areCovered_3  n x1 x3 x4 v) → gG E m_X12_areCovered d Q 0 0 (rS v) 3 [(0, .ref (gX E + 559)), (1, .int x1), (3, .int x3), (4, .int x4)] [] := by
  intro n
  induction n with
  | zero => intro x1 x3 x4 v hp; exact hp.elim
  | succ n ih =>
    intro x1 x3 x4 v hp hQ
    refine g_iload 3 dX12_areCovered_3 rfl ?_
    refine g_iload_n 2 dX12_areCovered_5 rfl ?_
    refine g_icmp_gt 27 dX12_areCovered_6 (by decide) (fun h1 => ?_) (fun h1 => ?_)
    · have hQ := qp (P := gqI Q v) h1 hQ
      have hp := hp.1 h1
      refine g_iconst dX12_areCovered_27 (1 : Int32) (by decide) ?_
      exact g_zret rfl rfl dX12_areCovered_28 hQ
    · have hQ := qn (P := gqI Q v) h1 hQ
      have hp := hp.2 h1
      refine g_aload_n 0 dX12_areCovered_9 rfl ?_
      refine g_iload_n 1 dX12_areCovered_10 rfl ?_
      refine g_iload 3 dX12_areCovered_11 rfl ?_
      obtain ⟨h2, hp⟩ := hp
      refine g_callV (rest := []) s_X12_257_X12 rfl (c_X12_isCovered (E := E) (d := d - 1)   (by omega) x1 x4 v h2) (by decide : kd 559 = (0, 9)) (show 559 < 572 by decide) rfl rfl (Nat.le_of_ble_eq_true rfl) (by omega) (by decide) (by decide) dX12_areCovered_13 (adV ?_) axN
      refine g_if_ne 21 dX12_areCovered_16 (by decide) (fun h3 => ?_) (fun h3 => ?_)
      · have hQ := qn (P := gqI Q v) h3 hQ
        have hp := hp.2 h3
        refine g_iinc 3 (x4 + 1) [(4, .int (x4 + 1)), (0, .ref (gX E + 559)), (1, .int x1), (3, .int x3)] dX12_areCovered_21 rfl rfl (by decide) rfl ?_
        refine g_goto 3 dX12_areCovered_24 (by decide) ?_
        refine g_lv (lv' := [(0, .ref (gX E + 559)), (1, .int x1), (3, .int x3), (4, .int (x4 + 1))]) [1, 2, 3, 0] rfl ?_
        exact ih x1 x3 (x4 + 1) v hp hQ
      · have hQ := qp (P := gqI Q v) h3 hQ
        have hp := hp.1 h3
        refine g_iconst dX12_areCovered_19 (0 : Int32) (by decide) ?_
        exact g_zret rfl rfl dX12_areCovered_20 hQ
def f_X12_areCovered_0  (x1 : Int32) (x2 : Int32) (x3 : Int32) (v : gV) : Int32 := f_X12_areCovered_3  5000 x1 x3 x2 v
def p_X12_areCovered_0  (x1 : Int32) (x2 : Int32) (x3 : Int32) (v : gV) : Prop := p_X12_areCovered_3   5000 x1 x3 x2 v
set_option maxHeartbeats 4000000 in
set_option maxRecDepth 100000 in
theorem w_X12_areCovered_0 {E : gE} {d : Nat} {Q : gO → gS → Prop}   (hd : 2 ≤ d) (x1 : Int32) (x2 : Int32) (x3 : Int32) (v : gV) (hp : p_X12_areCovered_0   x1 x2 x3 v) (hQ : gqI Q v (f_X12_areCovered_0  x1 x2 x3 v)) : gG E m_X12_areCovered d Q 0 0 (rS v) 0 [(0, .ref (gX E + 559)), (1, .int x1), (2, .int x2), (3, .int x3)] [] := by
  refine g_iload_n 2 dX12_areCovered_0 rfl ?_
  refine g_istore [(4, .int x2), (0, .ref (gX E + 559)), (1, .int x1), (2, .int x2), (3, .int x3)] dX12_areCovered_1 (by decide) rfl ?_
  refine g_lv (lv' := [(0, .ref (gX E + 559)), (1, .int x1), (3, .int x3), (4, .int x2)]) [1, 2, 4, 0] rfl ?_
  exact w_X12_areCovered_3  hd    5000 x1 x3 x2 v hp hQ
def f_X12_areCovered  (x1 : Int32) (x2 : Int32) (x3 : Int32) (v : gV) : Int32 := f_X12_areCovered_0 x1 x2 x3 v
def p_X12_areCovered  (x1 : Int32) (x2 : Int32) (x3 : Int32) (v : gV) : Prop := p_X12_areCovered_0 x1 x2 x3 v
theorem c_X12_areCovered {E : gE} {d : Nat}   (hd : 2 ≤ d) (x1 : Int32) (x2 : Int32) (x3 : Int32) (v : gV) (hp : p_X12_areCovered x1 x2 x3 v) : CT E m_X12_areCovered d 0 0 [.ref (gX E + 559), .int x1, .int x2, .int x3] (rS v) (Cq (.inl (some (.int (f_X12_areCovered x1 x2 x3 v)))) v) := CT.of ok_X12_areCovered rfl (Nat.le_of_ble_eq_true rfl) (w_X12_areCovered_0  hd x1 x2 x3 v hp ⟨rfl, rfl⟩)
def f_X12_priceOf_4  : Nat → Int32 → Int32 → Int32 → gV → Int32
  | 0, _, _, _, v => 0
  | n + 1, x1, x2, x3, v => if (v.1 560 (3 : Int32).toNatClampNeg) ≤ x3 then x2 else (f_X12_priceOf_4  n x1 (x2 + (((x1 >>> (x3 &&& 31)) &&& (1 : Int32)) * (f_X12_o x3 (2 : Int32) v))) (x3 + 1) v)
def p_X12_priceOf_4  : Nat → Int32 → Int32 → Int32 → gV → Prop
  | 0, _, _, _, _ => False
  | n + 1, x1, x2, x3, v => (((v.1 560 (3 : Int32).toNatClampNeg) ≤ x3) → (True)) ∧ (¬ ((v.1 560 (3 : Int32).toNatClampNeg) ≤ x3) → ((p_X12_o x3 (2 : Int32) v) ∧ (p_X12_priceOf_4   n x1 (x2 + (((x1 >>> (x3 &&& 31)) &&& (1 : Int32)) * (f_X12_o x3 (2 : Int32) v))) (x3 + 1) v)))
set_option maxHeartbeats 4000000 in
set_option maxRecDepth 100000 in
theorem w_X12_priceOf_4 {E : gE} {d : Nat} {Q : gO → gS → Prop}   (hd : 1 ≤ d) : ∀ (n : Nat) (x1 : Int32) (x2 : Int32) (x3 : Int32) (v : gV), p_X12_priceOf_4   n x1 x2 x3 v → gqI Q v (f_X12_priceOf_4  n x1 x2 x3 v) → gG E m_X12_priceOf d Q 0 0 (rS v) 4 [(0, .ref (gX E + 559)), (1, .int x1), (2, .int x2), (3, .int x3)] [] := by
  intro n
  induction n with
  | zero => intro x1 x2 x3 v hp; exact hp.elim
  | succ n ih =>
    intro x1 x2 x3 v hp hQ
    refine g_iload_n 3 dX12_priceOf_4 rfl ?_
    refine g_aload_n 0 dX12_priceOf_5 rfl ?_
    refine r_get (.ref (gX E + 560)) f_X12_7_X12 rfl (by decide : kd 559 = (0, 9)) (show 559 < 572 by decide) dX12_priceOf_6 (fun _ => rfl) ?_
    refine g_iconst dX12_priceOf_9 (3 : Int32) (by decide) ?_
    refine g_iald (by decide : kd 560 = (1, 300)) (show 560 < 572 by decide) (show ¬ (_ ∨ _) by decide) dX12_priceOf_10 ?_
    refine g_icmp_ge 35 dX12_priceOf_11 (by decide) (fun h1 => ?_) (fun h1 => ?_)
    · have hQ := qp (P := gqI Q v) h1 hQ
      have hp := hp.1 h1
      refine g_iload_n 2 dX12_priceOf_35 rfl ?_
      exact g_iret rfl dX12_priceOf_36 hQ
    · have hQ := qn (P := gqI Q v) h1 hQ
      have hp := hp.2 h1
      refine g_iload_n 2 dX12_priceOf_14 rfl ?_
      refine g_iload_n 1 dX12_priceOf_15 rfl ?_
      refine g_iload_n 3 dX12_priceOf_16 rfl ?_
      refine g_ishr dX12_priceOf_17 ?_
      refine g_iconst dX12_priceOf_18 (1 : Int32) (by decide) ?_
      refine g_iand dX12_priceOf_19 ?_
      refine g_aload_n 0 dX12_priceOf_20 rfl ?_
      refine g_iload_n 3 dX12_priceOf_21 rfl ?_
      refine g_iconst dX12_priceOf_22 (2 : Int32) (by decide) ?_
      obtain ⟨h2, hp⟩ := hp
      refine g_callV (rest := [.int ((x1 >>> (x3 &&& 31)) &&& (1 : Int32)), .int x2]) s_X12_201_X12 rfl (c_X12_o (E := E) (d := d - 1)   (by omega) x3 (2 : Int32) v h2) (by decide : kd 559 = (0, 9)) (show 559 < 572 by decide) rfl rfl (Nat.le_of_ble_eq_true rfl) (by omega) (by decide) (by decide) dX12_priceOf_23 (adV ?_) axN
      refine g_imul dX12_priceOf_26 ?_
      refine g_iadd dX12_priceOf_27 ?_
      refine g_istore_n [(2, .int (x2 + (((x1 >>> (x3 &&& 31)) &&& (1 : Int32)) * (f_X12_o x3 (2 : Int32) v)))), (0, .ref (gX E + 559)), (1, .int x1), (3, .int x3)] dX12_priceOf_28 rfl (by decide) rfl ?_
      refine g_iinc 3 (x3 + 1) [(3, .int (x3 + 1)), (2, .int (x2 + (((x1 >>> (x3 &&& 31)) &&& (1 : Int32)) * (f_X12_o x3 (2 : Int32) v)))), (0, .ref (gX E + 559)), (1, .int x1)] dX12_priceOf_29 rfl rfl (by decide) rfl ?_
      refine g_goto 4 dX12_priceOf_32 (by decide) ?_
      refine g_lv (lv' := [(0, .ref (gX E + 559)), (1, .int x1), (2, .int (x2 + (((x1 >>> (x3 &&& 31)) &&& (1 : Int32)) * (f_X12_o x3 (2 : Int32) v)))), (3, .int (x3 + 1))]) [2, 3, 1, 0] rfl ?_
      exact ih x1 (x2 + (((x1 >>> (x3 &&& 31)) &&& (1 : Int32)) * (f_X12_o x3 (2 : Int32) v))) (x3 + 1) v hp hQ
def f_X12_priceOf_0  (x1 : Int32) (v : gV) : Int32 := f_X12_priceOf_4  5000 x1 (0 : Int32) (0 : Int32) v
def p_X12_priceOf_0  (x1 : Int32) (v : gV) : Prop := p_X12_priceOf_4   5000 x1 (0 : Int32) (0 : Int32) v
set_option maxHeartbeats 4000000 in
set_option maxRecDepth 100000 in
theorem w_X12_priceOf_0 {E : gE} {d : Nat} {Q : gO → gS → Prop}   (hd : 1 ≤ d) (x1 : Int32) (v : gV) (hp : p_X12_priceOf_0   x1 v) (hQ : gqI Q v (f_X12_priceOf_0  x1 v)) : gG E m_X12_priceOf d Q 0 0 (rS v) 0 [(0, .ref (gX E + 559)), (1, .int x1)] [] := by
  refine g_iconst dX12_priceOf_0 (0 : Int32) (by decide) ?_
  refine g_istore_n [(2, .int ((0 : Int32))), (0, .ref (gX E + 559)), (1, .int x1)] dX12_priceOf_1 rfl (by decide) rfl ?_
  refine g_iconst dX12_priceOf_2 (0 : Int32) (by decide) ?_
  refine g_istore_n [(3, .int ((0 : Int32))), (2, .int ((0 : Int32))), (0, .ref (gX E + 559)), (1, .int x1)] dX12_priceOf_3 rfl (by decide) rfl ?_
  refine g_lv (lv' := [(0, .ref (gX E + 559)), (1, .int x1), (2, .int ((0 : Int32))), (3, .int ((0 : Int32)))]) [2, 3, 1, 0] rfl ?_
  exact w_X12_priceOf_4  hd    5000 x1 (0 : Int32) (0 : Int32) v hp hQ
def f_X12_priceOf  (x1 : Int32) (v : gV) : Int32 := f_X12_priceOf_0 x1 v
def p_X12_priceOf  (x1 : Int32) (v : gV) : Prop := p_X12_priceOf_0 x1 v
theorem c_X12_priceOf {E : gE} {d : Nat}   (hd : 1 ≤ d) (x1 : Int32) (v : gV) (hp : p_X12_priceOf x1 v) : CT E m_X12_priceOf d 0 0 [.ref (gX E + 559), .int x1] (rS v) (Cq (.inl (some (.int (f_X12_priceOf x1 v)))) v) := CT.of ok_X12_priceOf rfl (Nat.le_of_ble_eq_true rfl) (w_X12_priceOf_0  hd x1 v hp ⟨rfl, rfl⟩)
def f_X12_isPolicyAhead_87  (s0 : Int32) (v : gV) : Int32 := s0
def p_X12_isPolicyAhead_87  (s0 : Int32) (v : gV) : Prop := (s0 = 0 ∨ s0 = 1) ∧ (True)
set_option maxHeartbeats 4000000 in
set_option maxRecDepth 100000 in
theorem w_X12_isPolicyAhead_87 {E : gE} {d : Nat} {Q : gO → gS → Prop}   (hd : 1 ≤ d) (s0 : Int32) (v : gV) (hp : p_X12_isPolicyAhead_87   s0 v) (hQ : gqI Q v (f_X12_isPolicyAhead_87  s0 v)) : gG E m_X12_isPolicyAhead d Q 0 0 (rS v) 87 [] [.int s0] := by
  obtain ⟨h9, hp⟩ := hp
  exact g_zret rfl (nz h9) dX12_isPolicyAhead_87 hQ
def f_X12_isPolicyAhead_82   (v : gV) : Int32 := f_X12_isPolicyAhead_87  (1 : Int32) v
def p_X12_isPolicyAhead_82   (v : gV) : Prop := p_X12_isPolicyAhead_87   (1 : Int32) v
set_option maxHeartbeats 4000000 in
set_option maxRecDepth 100000 in
theorem w_X12_isPolicyAhead_82 {E : gE} {d : Nat} {Q : gO → gS → Prop}   (hd : 1 ≤ d)  (v : gV) (hp : p_X12_isPolicyAhead_82    v) (hQ : gqI Q v (f_X12_isPolicyAhead_82   v)) : gG E m_X12_isPolicyAhead d Q 0 0 (rS v) 82 [] [] := by
  refine g_iconst dX12_isPolicyAhead_82 (1 : Int32) (by decide) ?_
  refine g_goto 87 dX12_isPolicyAhead_83 (by decide) ?_
  exact w_X12_isPolicyAhead_87  hd    (1 : Int32) v hp hQ
def f_X12_isPolicyAhead_86   (v : gV) : Int32 := f_X12_isPolicyAhead_87  (0 : Int32) v
def p_X12_isPolicyAhead_86   (v : gV) : Prop := p_X12_isPolicyAhead_87   (0 : Int32) v
set_option maxHeartbeats 4000000 in
set_option maxRecDepth 100000 in
theorem w_X12_isPolicyAhead_86 {E : gE} {d : Nat} {Q : gO → gS → Prop}   (hd : 1 ≤ d)  (v : gV) (hp : p_X12_isPolicyAhead_86    v) (hQ : gqI Q v (f_X12_isPolicyAhead_86   v)) : gG E m_X12_isPolicyAhead d Q 0 0 (rS v) 86 [] [] := by
  refine g_iconst dX12_isPolicyAhead_86 (0 : Int32) (by decide) ?_
  exact w_X12_isPolicyAhead_87  hd    (0 : Int32) v hp hQ
def f_X12_isPolicyAhead_46  (s0 : Int32) (v : gV) : Int32 := s0
def p_X12_isPolicyAhead_46  (s0 : Int32) (v : gV) : Prop := (s0 = 0 ∨ s0 = 1) ∧ (True)
set_option maxHeartbeats 4000000 in
set_option maxRecDepth 100000 in
theorem w_X12_isPolicyAhead_46 {E : gE} {d : Nat} {Q : gO → gS → Prop}   (hd : 1 ≤ d) (s0 : Int32) (v : gV) (hp : p_X12_isPolicyAhead_46   s0 v) (hQ : gqI Q v (f_X12_isPolicyAhead_46  s0 v)) : gG E m_X12_isPolicyAhead d Q 0 0 (rS v) 46 [] [.int s0] := by
  obtain ⟨h15, hp⟩ := hp
  exact g_zret rfl (nz h15) dX12_isPolicyAhead_46 hQ
def f_X12_isPolicyAhead_0  (x1 : Int32) (x2 : Int32) (v : gV) : Int32 := if ((f_X12_p x1 (1 : Int32) v) * (f_X12_p x1 (2 : Int32) v)) = ((f_X12_p x2 (1 : Int32) v) * (f_X12_p x2 (2 : Int32) v)) then (if (f_X12_p x2 (5 : Int32) v) < (f_X12_p x1 (5 : Int32) v) then (f_X12_isPolicyAhead_82   v) else (if (f_X12_p x1 (5 : Int32) v) = (f_X12_p x2 (5 : Int32) v) then (if x2 ≤ x1 then (f_X12_isPolicyAhead_86   v) else (f_X12_isPolicyAhead_82   v)) else (f_X12_isPolicyAhead_86   v))) else (if ((f_X12_p x1 (1 : Int32) v) * (f_X12_p x1 (2 : Int32) v)) ≤ ((f_X12_p x2 (1 : Int32) v) * (f_X12_p x2 (2 : Int32) v)) then (f_X12_isPolicyAhead_46  (0 : Int32) v) else (f_X12_isPolicyAhead_46  (1 : Int32) v))
def p_X12_isPolicyAhead_0  (x1 : Int32) (x2 : Int32) (v : gV) : Prop := (p_X12_p x1 (1 : Int32) v) ∧ ((p_X12_p x1 (2 : Int32) v) ∧ ((p_X12_p x2 (1 : Int32) v) ∧ ((p_X12_p x2 (2 : Int32) v) ∧ (((((f_X12_p x1 (1 : Int32) v) * (f_X12_p x1 (2 : Int32) v)) = ((f_X12_p x2 (1 : Int32) v) * (f_X12_p x2 (2 : Int32) v))) → ((p_X12_p x1 (5 : Int32) v) ∧ ((p_X12_p x2 (5 : Int32) v) ∧ ((((f_X12_p x2 (5 : Int32) v) < (f_X12_p x1 (5 : Int32) v)) → (p_X12_isPolicyAhead_82    v)) ∧ (¬ ((f_X12_p x2 (5 : Int32) v) < (f_X12_p x1 (5 : Int32) v)) → ((p_X12_p x1 (5 : Int32) v) ∧ ((p_X12_p x2 (5 : Int32) v) ∧ ((((f_X12_p x1 (5 : Int32) v) = (f_X12_p x2 (5 : Int32) v)) → (((x2 ≤ x1) → (p_X12_isPolicyAhead_86    v)) ∧ (¬ (x2 ≤ x1) → (p_X12_isPolicyAhead_82    v)))) ∧ (¬ ((f_X12_p x1 (5 : Int32) v) = (f_X12_p x2 (5 : Int32) v)) → (p_X12_isPolicyAhead_86    v)))))))))) ∧ (¬ (((f_X12_p x1 (1 : Int32) v) * (f_X12_p x1 (2 : Int32) v)) = ((f_X12_p x2 (1 : Int32) v) * (f_X12_p x2 (2 : Int32) v))) → (((((f_X12_p x1 (1 : Int32) v) * (f_X12_p x1 (2 : Int32) v)) ≤ ((f_X12_p x2 (1 : Int32) v) * (f_X12_p x2 (2 : Int32) v))) → (p_X12_isPolicyAhead_46   (0 : Int32) v)) ∧ (¬ (((f_X12_p x1 (1 : Int32) v) * (f_X12_p x1 (2 : Int32) v)) ≤ ((f_X12_p x2 (1 : Int32) v) * (f_X12_p x2 (2 : Int32) v))) → (p_X12_isPolicyAhead_46   (1 : Int32) v))))))))
set_option maxHeartbeats 4000000 in
set_option maxRecDepth 100000 in
theorem w_X12_isPolicyAhead_0 {E : gE} {d : Nat} {Q : gO → gS → Prop}   (hd : 1 ≤ d) (x1 : Int32) (x2 : Int32) (v : gV) (hp : p_X12_isPolicyAhead_0   x1 x2 v) (hQ : gqI Q v (f_X12_isPolicyAhead_0  x1 x2 v)) : gG E m_X12_isPolicyAhead d Q 0 0 (rS v) 0 [(0, .ref (gX E + 559)), (1, .int x1), (2, .int x2)] [] := by
  refine g_aload_n 0 dX12_isPolicyAhead_0 rfl ?_
  refine g_iload_n 1 dX12_isPolicyAhead_1 rfl ?_
  refine g_iconst dX12_isPolicyAhead_2 (1 : Int32) (by decide) ?_
  obtain ⟨h1, hp⟩ := hp
  refine g_callV (rest := []) s_X12_79_X12 rfl (c_X12_p (E := E) (d := d - 1)   (by omega) x1 (1 : Int32) v h1) (by decide : kd 559 = (0, 9)) (show 559 < 572 by decide) rfl rfl (Nat.le_of_ble_eq_true rfl) (by omega) (by decide) (by decide) dX12_isPolicyAhead_3 (adV ?_) axN
  refine g_aload_n 0 dX12_isPolicyAhead_6 rfl ?_
  refine g_iload_n 1 dX12_isPolicyAhead_7 rfl ?_
  refine g_iconst dX12_isPolicyAhead_8 (2 : Int32) (by decide) ?_
  obtain ⟨h2, hp⟩ := hp
  refine g_callV (rest := [.int ((f_X12_p x1 (1 : Int32) v))]) s_X12_79_X12 rfl (c_X12_p (E := E) (d := d - 1)   (by omega) x1 (2 : Int32) v h2) (by decide : kd 559 = (0, 9)) (show 559 < 572 by decide) rfl rfl (Nat.le_of_ble_eq_true rfl) (by omega) (by decide) (by decide) dX12_isPolicyAhead_9 (adV ?_) axN
  refine g_imul dX12_isPolicyAhead_12 ?_
  refine g_istore_n [(3, .int ((f_X12_p x1 (1 : Int32) v) * (f_X12_p x1 (2 : Int32) v))), (0, .ref (gX E + 559)), (1, .int x1), (2, .int x2)] dX12_isPolicyAhead_13 rfl (by decide) rfl ?_
  refine g_aload_n 1 dX12_isPolicyAhead_14 rfl ?_
  refine g_iload_n 3 dX12_isPolicyAhead_15 rfl ?_
  refine g_iconst dX12_isPolicyAhead_16 (1 : Int32) (by decide) ?_
  obtain ⟨h3, hp⟩ := hp
  refine g_callV (rest := []) s_X12_79_X12 rfl (c_X12_p (E := E) (d := d - 1)   (by omega) x2 (1 : Int32) v h3) (by decide : kd 559 = (0, 9)) (show 559 < 572 by decide) rfl rfl (Nat.le_of_ble_eq_true rfl) (by omega) (by decide) (by decide) dX12_isPolicyAhead_17 (adV ?_) axN
  refine g_aload_n 1 dX12_isPolicyAhead_20 rfl ?_
  refine g_iload_n 3 dX12_isPolicyAhead_21 rfl ?_
  refine g_iconst dX12_isPolicyAhead_22 (2 : Int32) (by decide) ?_
  obtain ⟨h4, hp⟩ := hp
  refine g_callV (rest := [.int ((f_X12_p x2 (1 : Int32) v))]) s_X12_79_X12 rfl (c_X12_p (E := E) (d := d - 1)   (by omega) x2 (2 : Int32) v h4) (by decide : kd 559 = (0, 9)) (show 559 < 572 by decide) rfl rfl (Nat.le_of_ble_eq_true rfl) (by omega) (by decide) (by decide) dX12_isPolicyAhead_23 (adV ?_) axN
  refine g_imul dX12_isPolicyAhead_26 ?_
  refine g_istore [(4, .int ((f_X12_p x2 (1 : Int32) v) * (f_X12_p x2 (2 : Int32) v))), (3, .int ((f_X12_p x1 (1 : Int32) v) * (f_X12_p x1 (2 : Int32) v))), (0, .ref (gX E + 559)), (1, .int x1), (2, .int x2)] dX12_isPolicyAhead_27 (by decide) rfl ?_
  refine g_iload_n 1 dX12_isPolicyAhead_29 rfl ?_
  refine g_iload 0 dX12_isPolicyAhead_30 rfl ?_
  refine g_icmp_eq 47 dX12_isPolicyAhead_32 (by decide) (fun h5 => ?_) (fun h5 => ?_)
  · have hQ := qp (P := gqI Q v) h5 hQ
    have hp := hp.1 h5
    refine g_aload_n 2 dX12_isPolicyAhead_47 rfl ?_
    refine g_iload_n 3 dX12_isPolicyAhead_48 rfl ?_
    refine g_iconst dX12_isPolicyAhead_49 (5 : Int32) (by decide) ?_
    obtain ⟨h6, hp⟩ := hp
    refine g_callV (rest := []) s_X12_79_X12 rfl (c_X12_p (E := E) (d := d - 1)   (by omega) x1 (5 : Int32) v h6) (by decide : kd 559 = (0, 9)) (show 559 < 572 by decide) rfl rfl (Nat.le_of_ble_eq_true rfl) (by omega) (by decide) (by decide) dX12_isPolicyAhead_50 (adV ?_) axN
    refine g_aload_n 2 dX12_isPolicyAhead_53 rfl ?_
    refine g_iload_n 4 dX12_isPolicyAhead_54 rfl ?_
    refine g_iconst dX12_isPolicyAhead_55 (5 : Int32) (by decide) ?_
    obtain ⟨h7, hp⟩ := hp
    refine g_callV (rest := [.int ((f_X12_p x1 (5 : Int32) v))]) s_X12_79_X12 rfl (c_X12_p (E := E) (d := d - 1)   (by omega) x2 (5 : Int32) v h7) (by decide : kd 559 = (0, 9)) (show 559 < 572 by decide) rfl rfl (Nat.le_of_ble_eq_true rfl) (by omega) (by decide) (by decide) dX12_isPolicyAhead_56 (adV ?_) axN
    refine g_icmp_gt 82 dX12_isPolicyAhead_59 (by decide) (fun h8 => ?_) (fun h8 => ?_)
    · have hQ := qp (P := gqI Q v) h8 hQ
      have hp := hp.1 h8
      refine g_lv (lv' := []) [] rfl ?_
      exact w_X12_isPolicyAhead_82  hd     v hp hQ
    · have hQ := qn (P := gqI Q v) h8 hQ
      have hp := hp.2 h8
      refine g_aload_n 2 dX12_isPolicyAhead_62 rfl ?_
      refine g_iload_n 3 dX12_isPolicyAhead_63 rfl ?_
      refine g_iconst dX12_isPolicyAhead_64 (5 : Int32) (by decide) ?_
      obtain ⟨h10, hp⟩ := hp
      refine g_callV (rest := []) s_X12_79_X12 rfl (c_X12_p (E := E) (d := d - 1)   (by omega) x1 (5 : Int32) v h10) (by decide : kd 559 = (0, 9)) (show 559 < 572 by decide) rfl rfl (Nat.le_of_ble_eq_true rfl) (by omega) (by decide) (by decide) dX12_isPolicyAhead_65 (adV ?_) axN
      refine g_aload_n 2 dX12_isPolicyAhead_68 rfl ?_
      refine g_iload_n 4 dX12_isPolicyAhead_69 rfl ?_
      refine g_iconst dX12_isPolicyAhead_70 (5 : Int32) (by decide) ?_
      obtain ⟨h11, hp⟩ := hp
      refine g_callV (rest := [.int ((f_X12_p x1 (5 : Int32) v))]) s_X12_79_X12 rfl (c_X12_p (E := E) (d := d - 1)   (by omega) x2 (5 : Int32) v h11) (by decide : kd 559 = (0, 9)) (show 559 < 572 by decide) rfl rfl (Nat.le_of_ble_eq_true rfl) (by omega) (by decide) (by decide) dX12_isPolicyAhead_71 (adV ?_) axN
      refine g_icmp_ne 86 dX12_isPolicyAhead_74 (by decide) (fun h12 => ?_) (fun h12 => ?_)
      · have hQ := qn (P := gqI Q v) h12 hQ
        have hp := hp.2 h12
        refine g_lv (lv' := []) [] rfl ?_
        exact w_X12_isPolicyAhead_86  hd     v hp hQ
      · have hQ := qp (P := gqI Q v) h12 hQ
        have hp := hp.1 h12
        refine g_iload_n 3 dX12_isPolicyAhead_77 rfl ?_
        refine g_iload_n 4 dX12_isPolicyAhead_78 rfl ?_
        refine g_icmp_ge 86 dX12_isPolicyAhead_79 (by decide) (fun h13 => ?_) (fun h13 => ?_)
        · have hQ := qp (P := gqI Q v) h13 hQ
          have hp := hp.1 h13
          refine g_lv (lv' := []) [] rfl ?_
          exact w_X12_isPolicyAhead_86  hd     v hp hQ
        · have hQ := qn (P := gqI Q v) h13 hQ
          have hp := hp.2 h13
          refine g_lv (lv' := []) [] rfl ?_
          exact w_X12_isPolicyAhead_82  hd     v hp hQ
  · have hQ := qn (P := gqI Q v) h5 hQ
    have hp := hp.2 h5
    refine g_iload_n 1 dX12_isPolicyAhead_35 rfl ?_
    refine g_iload 0 dX12_isPolicyAhead_36 rfl ?_
    refine g_icmp_le 45 dX12_isPolicyAhead_38 (by decide) (fun h14 => ?_) (fun h14 => ?_)
    · have hQ := qp (P := gqI Q v) h14 hQ
      have hp := hp.1 h14
      refine g_iconst dX12_isPolicyAhead_45 (0 : Int32) (by decide) ?_
      refine g_lv (lv' := []) [] rfl ?_
      exact w_X12_isPolicyAhead_46  hd    (0 : Int32) v hp hQ
    · have hQ := qn (P := gqI Q v) h14 hQ
      have hp := hp.2 h14
      refine g_iconst dX12_isPolicyAhead_41 (1 : Int32) (by decide) ?_
      refine g_goto 46 dX12_isPolicyAhead_42 (by decide) ?_
      refine g_lv (lv' := []) [] rfl ?_
      exact w_X12_isPolicyAhead_46  hd    (1 : Int32) v hp hQ
def f_X12_isPolicyAhead  (x1 : Int32) (x2 : Int32) (v : gV) : Int32 := f_X12_isPolicyAhead_0 x1 x2 v
def p_X12_isPolicyAhead  (x1 : Int32) (x2 : Int32) (v : gV) : Prop := p_X12_isPolicyAhead_0 x1 x2 v
theorem c_X12_isPolicyAhead {E : gE} {d : Nat}   (hd : 1 ≤ d) (x1 : Int32) (x2 : Int32) (v : gV) (hp : p_X12_isPolicyAhead x1 x2 v) : CT E m_X12_isPolicyAhead d 0 0 [.ref (gX E + 559), .int x1, .int x2] (rS v) (Cq (.inl (some (.int (f_X12_isPolicyAhead x1 x2 v)))) v) := CT.of ok_X12_isPolicyAhead rfl (Nat.le_of_ble_eq_true rfl) (w_X12_isPolicyAhead_0  hd x1 x2 v hp ⟨rfl, rfl⟩)
def f_X12_isClaimAhead_51  (s0 : Int32) (v : gV) : Int32 := s0
def p_X12_isClaimAhead_51  (s0 : Int32) (v : gV) : Prop := (s0 = 0 ∨ s0 = 1) ∧ (True)
set_option maxHeartbeats 4000000 in
set_option maxRecDepth 100000 in
theorem w_X12_isClaimAhead_51 {E : gE} {d : Nat} {Q : gO → gS → Prop}   (hd : 1 ≤ d) (s0 : Int32) (v : gV) (hp : p_X12_isClaimAhead_51   s0 v) (hQ : gqI Q v (f_X12_isClaimAhead_51  s0 v)) : gG E m_X12_isClaimAhead d Q 0 0 (rS v) 51 [] [.int s0] := by
  obtain ⟨h6, hp⟩ := hp
  exact g_zret rfl (nz h6) dX12_isClaimAhead_51 hQ
def f_X12_isClaimAhead_46   (v : gV) : Int32 := f_X12_isClaimAhead_51  (1 : Int32) v
def p_X12_isClaimAhead_46   (v : gV) : Prop := p_X12_isClaimAhead_51   (1 : Int32) v
set_option maxHeartbeats 4000000 in
set_option maxRecDepth 100000 in
theorem w_X12_isClaimAhead_46 {E : gE} {d : Nat} {Q : gO → gS → Prop}   (hd : 1 ≤ d)  (v : gV) (hp : p_X12_isClaimAhead_46    v) (hQ : gqI Q v (f_X12_isClaimAhead_46   v)) : gG E m_X12_isClaimAhead d Q 0 0 (rS v) 46 [] [] := by
  refine g_iconst dX12_isClaimAhead_46 (1 : Int32) (by decide) ?_
  refine g_goto 51 dX12_isClaimAhead_47 (by decide) ?_
  exact w_X12_isClaimAhead_51  hd    (1 : Int32) v hp hQ
def f_X12_isClaimAhead_50   (v : gV) : Int32 := f_X12_isClaimAhead_51  (0 : Int32) v
def p_X12_isClaimAhead_50   (v : gV) : Prop := p_X12_isClaimAhead_51   (0 : Int32) v
set_option maxHeartbeats 4000000 in
set_option maxRecDepth 100000 in
theorem w_X12_isClaimAhead_50 {E : gE} {d : Nat} {Q : gO → gS → Prop}   (hd : 1 ≤ d)  (v : gV) (hp : p_X12_isClaimAhead_50    v) (hQ : gqI Q v (f_X12_isClaimAhead_50   v)) : gG E m_X12_isClaimAhead d Q 0 0 (rS v) 50 [] [] := by
  refine g_iconst dX12_isClaimAhead_50 (0 : Int32) (by decide) ?_
  exact w_X12_isClaimAhead_51  hd    (0 : Int32) v hp hQ
def f_X12_isClaimAhead_0  (x1 : Int32) (x2 : Int32) (v : gV) : Int32 := if ((f_X12_c x2 (3 : Int32) v) - (f_X12_c x2 (4 : Int32) v)) < ((f_X12_c x1 (3 : Int32) v) - (f_X12_c x1 (4 : Int32) v)) then (f_X12_isClaimAhead_46   v) else (if ((f_X12_c x1 (3 : Int32) v) - (f_X12_c x1 (4 : Int32) v)) = ((f_X12_c x2 (3 : Int32) v) - (f_X12_c x2 (4 : Int32) v)) then (if x2 ≤ x1 then (f_X12_isClaimAhead_50   v) else (f_X12_isClaimAhead_46   v)) else (f_X12_isClaimAhead_50   v))
def p_X12_isClaimAhead_0  (x1 : Int32) (x2 : Int32) (v : gV) : Prop := (p_X12_c x1 (3 : Int32) v) ∧ ((p_X12_c x1 (4 : Int32) v) ∧ ((p_X12_c x2 (3 : Int32) v) ∧ ((p_X12_c x2 (4 : Int32) v) ∧ (((((f_X12_c x2 (3 : Int32) v) - (f_X12_c x2 (4 : Int32) v)) < ((f_X12_c x1 (3 : Int32) v) - (f_X12_c x1 (4 : Int32) v))) → (p_X12_isClaimAhead_46    v)) ∧ (¬ (((f_X12_c x2 (3 : Int32) v) - (f_X12_c x2 (4 : Int32) v)) < ((f_X12_c x1 (3 : Int32) v) - (f_X12_c x1 (4 : Int32) v))) → (((((f_X12_c x1 (3 : Int32) v) - (f_X12_c x1 (4 : Int32) v)) = ((f_X12_c x2 (3 : Int32) v) - (f_X12_c x2 (4 : Int32) v))) → (((x2 ≤ x1) → (p_X12_isClaimAhead_50    v)) ∧ (¬ (x2 ≤ x1) → (p_X12_isClaimAhead_46    v)))) ∧ (¬ (((f_X12_c x1 (3 : Int32) v) - (f_X12_c x1 (4 : Int32) v)) = ((f_X12_c x2 (3 : Int32) v) - (f_X12_c x2 (4 : Int32) v))) → (p_X12_isClaimAhead_50    v))))))))
set_option maxHeartbeats 4000000 in
set_option maxRecDepth 100000 in
theorem w_X12_isClaimAhead_0 {E : gE} {d : Nat} {Q : gO → gS → Prop}   (hd : 1 ≤ d) (x1 : Int32) (x2 : Int32) (v : gV) (hp : p_X12_isClaimAhead_0   x1 x2 v) (hQ : gqI Q v (f_X12_isClaimAhead_0  x1 x2 v)) : gG E m_X12_isClaimAhead d Q 0 0 (rS v) 0 [(0, .ref (gX E + 559)), (1, .int x1), (2, .int x2)] [] := by
  refine g_aload_n 0 dX12_isClaimAhead_0 rfl ?_
  refine g_iload_n 1 dX12_isClaimAhead_1 rfl ?_
  refine g_iconst dX12_isClaimAhead_2 (3 : Int32) (by decide) ?_
  obtain ⟨h1, hp⟩ := hp
  refine g_callV (rest := []) s_X12_104_X12 rfl (c_X12_c (E := E) (d := d - 1)   (by omega) x1 (3 : Int32) v h1) (by decide : kd 559 = (0, 9)) (show 559 < 572 by decide) rfl rfl (Nat.le_of_ble_eq_true rfl) (by omega) (by decide) (by decide) dX12_isClaimAhead_3 (adV ?_) axN
  refine g_aload_n 0 dX12_isClaimAhead_6 rfl ?_
  refine g_iload_n 1 dX12_isClaimAhead_7 rfl ?_
  refine g_iconst dX12_isClaimAhead_8 (4 : Int32) (by decide) ?_
  obtain ⟨h2, hp⟩ := hp
  refine g_callV (rest := [.int ((f_X12_c x1 (3 : Int32) v))]) s_X12_104_X12 rfl (c_X12_c (E := E) (d := d - 1)   (by omega) x1 (4 : Int32) v h2) (by decide : kd 559 = (0, 9)) (show 559 < 572 by decide) rfl rfl (Nat.le_of_ble_eq_true rfl) (by omega) (by decide) (by decide) dX12_isClaimAhead_9 (adV ?_) axN
  refine g_isub dX12_isClaimAhead_12 ?_
  refine g_istore_n [(3, .int ((f_X12_c x1 (3 : Int32) v) - (f_X12_c x1 (4 : Int32) v))), (0, .ref (gX E + 559)), (1, .int x1), (2, .int x2)] dX12_isClaimAhead_13 rfl (by decide) rfl ?_
  refine g_aload_n 1 dX12_isClaimAhead_14 rfl ?_
  refine g_iload_n 3 dX12_isClaimAhead_15 rfl ?_
  refine g_iconst dX12_isClaimAhead_16 (3 : Int32) (by decide) ?_
  obtain ⟨h3, hp⟩ := hp
  refine g_callV (rest := []) s_X12_104_X12 rfl (c_X12_c (E := E) (d := d - 1)   (by omega) x2 (3 : Int32) v h3) (by decide : kd 559 = (0, 9)) (show 559 < 572 by decide) rfl rfl (Nat.le_of_ble_eq_true rfl) (by omega) (by decide) (by decide) dX12_isClaimAhead_17 (adV ?_) axN
  refine g_aload_n 1 dX12_isClaimAhead_20 rfl ?_
  refine g_iload_n 3 dX12_isClaimAhead_21 rfl ?_
  refine g_iconst dX12_isClaimAhead_22 (4 : Int32) (by decide) ?_
  obtain ⟨h4, hp⟩ := hp
  refine g_callV (rest := [.int ((f_X12_c x2 (3 : Int32) v))]) s_X12_104_X12 rfl (c_X12_c (E := E) (d := d - 1)   (by omega) x2 (4 : Int32) v h4) (by decide : kd 559 = (0, 9)) (show 559 < 572 by decide) rfl rfl (Nat.le_of_ble_eq_true rfl) (by omega) (by decide) (by decide) dX12_isClaimAhead_23 (adV ?_) axN
  refine g_isub dX12_isClaimAhead_26 ?_
  refine g_istore [(4, .int ((f_X12_c x2 (3 : Int32) v) - (f_X12_c x2 (4 : Int32) v))), (3, .int ((f_X12_c x1 (3 : Int32) v) - (f_X12_c x1 (4 : Int32) v))), (0, .ref (gX E + 559)), (1, .int x1), (2, .int x2)] dX12_isClaimAhead_27 (by decide) rfl ?_
  refine g_iload_n 1 dX12_isClaimAhead_29 rfl ?_
  refine g_iload 0 dX12_isClaimAhead_30 rfl ?_
  refine g_icmp_gt 46 dX12_isClaimAhead_32 (by decide) (fun h5 => ?_) (fun h5 => ?_)
  · have hQ := qp (P := gqI Q v) h5 hQ
    have hp := hp.1 h5
    refine g_lv (lv' := []) [] rfl ?_
    exact w_X12_isClaimAhead_46  hd     v hp hQ
  · have hQ := qn (P := gqI Q v) h5 hQ
    have hp := hp.2 h5
    refine g_iload_n 1 dX12_isClaimAhead_35 rfl ?_
    refine g_iload 0 dX12_isClaimAhead_36 rfl ?_
    refine g_icmp_ne 50 dX12_isClaimAhead_38 (by decide) (fun h7 => ?_) (fun h7 => ?_)
    · have hQ := qn (P := gqI Q v) h7 hQ
      have hp := hp.2 h7
      refine g_lv (lv' := []) [] rfl ?_
      exact w_X12_isClaimAhead_50  hd     v hp hQ
    · have hQ := qp (P := gqI Q v) h7 hQ
      have hp := hp.1 h7
      refine g_iload_n 3 dX12_isClaimAhead_41 rfl ?_
      refine g_iload_n 4 dX12_isClaimAhead_42 rfl ?_
      refine g_icmp_ge 50 dX12_isClaimAhead_43 (by decide) (fun h8 => ?_) (fun h8 => ?_)
      · have hQ := qp (P := gqI Q v) h8 hQ
        have hp := hp.1 h8
        refine g_lv (lv' := []) [] rfl ?_
        exact w_X12_isClaimAhead_50  hd     v hp hQ
      · have hQ := qn (P := gqI Q v) h8 hQ
        have hp := hp.2 h8
        refine g_lv (lv' := []) [] rfl ?_
        exact w_X12_isClaimAhead_46  hd     v hp hQ
def f_X12_isClaimAhead  (x1 : Int32) (x2 : Int32) (v : gV) : Int32 := f_X12_isClaimAhead_0 x1 x2 v
def p_X12_isClaimAhead  (x1 : Int32) (x2 : Int32) (v : gV) : Prop := p_X12_isClaimAhead_0 x1 x2 v
theorem c_X12_isClaimAhead {E : gE} {d : Nat}   (hd : 1 ≤ d) (x1 : Int32) (x2 : Int32) (v : gV) (hp : p_X12_isClaimAhead x1 x2 v) : CT E m_X12_isClaimAhead d 0 0 [.ref (gX E + 559), .int x1, .int x2] (rS v) (Cq (.inl (some (.int (f_X12_isClaimAhead x1 x2 v)))) v) := CT.of ok_X12_isClaimAhead rfl (Nat.le_of_ble_eq_true rfl) (w_X12_isClaimAhead_0  hd x1 x2 v hp ⟨rfl, rfl⟩)
def f_X12_ranked_117  (s0 : Int32) (v : gV) : Int32 × gV := (s0, v)
def p_X12_ranked_117  (s0 : Int32) (v : gV) : Prop := True
set_option maxHeartbeats 4000000 in
set_option maxRecDepth 100000 in
theorem w_X12_ranked_117 {E : gE} {d : Nat} {Q : gO → gS → Prop}   (hd : 2 ≤ d) (s0 : Int32) (v : gV) (hp : p_X12_ranked_117   s0 v) (hQ : gqIV Q (f_X12_ranked_117  s0 v)) : gG E m_X12_ranked d Q 0 0 (rS v) 117 [] [.int s0] := by
  exact g_iret rfl dX12_ranked_117 hQ
def f_X12_ranked_105  (s0 : Int32) (v : gV) : Int32 × gV := (s0, v)
def p_X12_ranked_105  (s0 : Int32) (v : gV) : Prop := True
set_option maxHeartbeats 4000000 in
set_option maxRecDepth 100000 in
theorem w_X12_ranked_105 {E : gE} {d : Nat} {Q : gO → gS → Prop}   (hd : 2 ≤ d) (s0 : Int32) (v : gV) (hp : p_X12_ranked_105   s0 v) (hQ : gqIV Q (f_X12_ranked_105  s0 v)) : gG E m_X12_ranked d Q 0 0 (rS v) 105 [] [.int s0] := by
  exact g_iret rfl dX12_ranked_105 hQ
def f_X12_ranked_69  (K8 : Int32 → Int32 → Int32 → Int32 → gV → Int32 × gV)  (K20 : Int32 → Int32 → Int32 → Int32 → Int32 → Int32 → gV → Int32 × gV)  (x1 : Int32) (x2 : Int32) (x3 : Int32) (x4 : Int32) (x6 : Int32) (s0 : Int32) (s1 : Int32) (v : gV) : Int32 × gV := K20 x1 x2 x3 x4 (s1 + s0) (x6 + 1) v
def p_X12_ranked_69  (K8 : Int32 → Int32 → Int32 → Int32 → gV → Int32 × gV)  (K20 : Int32 → Int32 → Int32 → Int32 → Int32 → Int32 → gV → Int32 × gV)  (PK8 : Int32 → Int32 → Int32 → Int32 → gV → Prop)  (PK20 : Int32 → Int32 → Int32 → Int32 → Int32 → Int32 → gV → Prop)  (x1 : Int32) (x2 : Int32) (x3 : Int32) (x4 : Int32) (x6 : Int32) (s0 : Int32) (s1 : Int32) (v : gV) : Prop := PK20 x1 x2 x3 x4 (s1 + s0) (x6 + 1) v
set_option maxHeartbeats 4000000 in
set_option maxRecDepth 100000 in
theorem w_X12_ranked_69 {E : gE} {d : Nat} {Q : gO → gS → Prop}   (hd : 2 ≤ d) (K8 : Int32 → Int32 → Int32 → Int32 → gV → Int32 × gV)  (K20 : Int32 → Int32 → Int32 → Int32 → Int32 → Int32 → gV → Int32 × gV)  (PK8 : Int32 → Int32 → Int32 → Int32 → gV → Prop)  (PK20 : Int32 → Int32 → Int32 → Int32 → Int32 → Int32 → gV → Prop)  (hK8 : ∀ (x1 : Int32) (x2 : Int32) (x3 : Int32) (x4 : Int32) (v : gV), PK8 x1 x2 x3 x4 v → gqIV Q (K8 x1 x2 x3 x4 v) → gG E m_X12_ranked d Q 0 0 (rS v) 8 [(0, .ref (gX E + 559)), (1, .int x1), (2, .int x2), (3, .int x3), (4, .int x4)] [])  (hK20 : ∀ (x1 : Int32) (x2 : Int32) (x3 : Int32) (x4 : Int32) (x5 : Int32) (x6 : Int32) (v : gV), PK20 x1 x2 x3 x4 x5 x6 v → gqIV Q (K20 x1 x2 x3 x4 x5 x6 v) → gG E m_X12_ranked d Q 0 0 (rS v) 20 [(0, .ref (gX E + 559)), (1, .int x1), (2, .int x2), (3, .int x3), (4, .int x4), (5, .int x5), (6, .int x6)] [])  (x1 : Int32) (x2 : Int32) (x3 : Int32) (x4 : Int32) (x6 : Int32) (s0 : Int32) (s1 : Int32) (v : gV) (hp : p_X12_ranked_69 K8 K20 PK8 PK20 x1 x2 x3 x4 x6 s0 s1 v) (hQ : gqIV Q (f_X12_ranked_69 K8 K20 x1 x2 x3 x4 x6 s0 s1 v)) : gG E m_X12_ranked d Q 0 0 (rS v) 69 [(0, .ref (gX E + 559)), (1, .int x1), (2, .int x2), (3, .int x3), (4, .int x4), (6, .int x6)] [.int s0, .int s1] := by
  refine g_iadd dX12_ranked_69 ?_
  refine g_istore [(5, .int (s1 + s0)), (0, .ref (gX E + 559)), (1, .int x1), (2, .int x2), (3, .int x3), (4, .int x4), (6, .int x6)] dX12_ranked_70 (by decide) rfl ?_
  refine g_iinc 6 (x6 + 1) [(6, .int (x6 + 1)), (5, .int (s1 + s0)), (0, .ref (gX E + 559)), (1, .int x1), (2, .int x2), (3, .int x3), (4, .int x4)] dX12_ranked_72 rfl rfl (by decide) rfl ?_
  refine g_goto 20 dX12_ranked_75 (by decide) ?_
  refine g_lv (lv' := [(0, .ref (gX E + 559)), (1, .int x1), (2, .int x2), (3, .int x3), (4, .int x4), (5, .int (s1 + s0)), (6, .int (x6 + 1))]) [2, 3, 4, 5, 6, 1, 0] rfl ?_
  exact hK20 x1 x2 x3 x4 (s1 + s0) (x6 + 1) v hp hQ
def f_X12_ranked_68  (K8 : Int32 → Int32 → Int32 → Int32 → gV → Int32 × gV)  (K20 : Int32 → Int32 → Int32 → Int32 → Int32 → Int32 → gV → Int32 × gV)  (x1 : Int32) (x2 : Int32) (x3 : Int32) (x4 : Int32) (x6 : Int32) (s0 : Int32) (v : gV) : Int32 × gV := f_X12_ranked_69 K8 K20 x1 x2 x3 x4 x6 (0 : Int32) s0 v
def p_X12_ranked_68  (K8 : Int32 → Int32 → Int32 → Int32 → gV → Int32 × gV)  (K20 : Int32 → Int32 → Int32 → Int32 → Int32 → Int32 → gV → Int32 × gV)  (PK8 : Int32 → Int32 → Int32 → Int32 → gV → Prop)  (PK20 : Int32 → Int32 → Int32 → Int32 → Int32 → Int32 → gV → Prop)  (x1 : Int32) (x2 : Int32) (x3 : Int32) (x4 : Int32) (x6 : Int32) (s0 : Int32) (v : gV) : Prop := p_X12_ranked_69 K8 K20 PK8 PK20 x1 x2 x3 x4 x6 (0 : Int32) s0 v
set_option maxHeartbeats 4000000 in
set_option maxRecDepth 100000 in
theorem w_X12_ranked_68 {E : gE} {d : Nat} {Q : gO → gS → Prop}   (hd : 2 ≤ d) (K8 : Int32 → Int32 → Int32 → Int32 → gV → Int32 × gV)  (K20 : Int32 → Int32 → Int32 → Int32 → Int32 → Int32 → gV → Int32 × gV)  (PK8 : Int32 → Int32 → Int32 → Int32 → gV → Prop)  (PK20 : Int32 → Int32 → Int32 → Int32 → Int32 → Int32 → gV → Prop)  (hK8 : ∀ (x1 : Int32) (x2 : Int32) (x3 : Int32) (x4 : Int32) (v : gV), PK8 x1 x2 x3 x4 v → gqIV Q (K8 x1 x2 x3 x4 v) → gG E m_X12_ranked d Q 0 0 (rS v) 8 [(0, .ref (gX E + 559)), (1, .int x1), (2, .int x2), (3, .int x3), (4, .int x4)] [])  (hK20 : ∀ (x1 : Int32) (x2 : Int32) (x3 : Int32) (x4 : Int32) (x5 : Int32) (x6 : Int32) (v : gV), PK20 x1 x2 x3 x4 x5 x6 v → gqIV Q (K20 x1 x2 x3 x4 x5 x6 v) → gG E m_X12_ranked d Q 0 0 (rS v) 20 [(0, .ref (gX E + 559)), (1, .int x1), (2, .int x2), (3, .int x3), (4, .int x4), (5, .int x5), (6, .int x6)] [])  (x1 : Int32) (x2 : Int32) (x3 : Int32) (x4 : Int32) (x6 : Int32) (s0 : Int32) (v : gV) (hp : p_X12_ranked_68 K8 K20 PK8 PK20 x1 x2 x3 x4 x6 s0 v) (hQ : gqIV Q (f_X12_ranked_68 K8 K20 x1 x2 x3 x4 x6 s0 v)) : gG E m_X12_ranked d Q 0 0 (rS v) 68 [(0, .ref (gX E + 559)), (1, .int x1), (2, .int x2), (3, .int x3), (4, .int x4), (6, .int x6)] [.int s0] := by
  refine g_iconst dX12_ranked_68 (0 : Int32) (by decide) ?_
  exact w_X12_ranked_69  hd K8 K20 PK8 PK20 hK8 hK20 x1 x2 x3 x4 x6 (0 : Int32) s0 v hp hQ
def f_X12_ranked_64  (K8 : Int32 → Int32 → Int32 → Int32 → gV → Int32 × gV)  (K20 : Int32 → Int32 → Int32 → Int32 → Int32 → Int32 → gV → Int32 × gV)  (x1 : Int32) (x2 : Int32) (x3 : Int32) (x4 : Int32) (x6 : Int32) (s0 : Int32) (v : gV) : Int32 × gV := f_X12_ranked_69 K8 K20 x1 x2 x3 x4 x6 (1 : Int32) s0 v
def p_X12_ranked_64  (K8 : Int32 → Int32 → Int32 → Int32 → gV → Int32 × gV)  (K20 : Int32 → Int32 → Int32 → Int32 → Int32 → Int32 → gV → Int32 × gV)  (PK8 : Int32 → Int32 → Int32 → Int32 → gV → Prop)  (PK20 : Int32 → Int32 → Int32 → Int32 → Int32 → Int32 → gV → Prop)  (x1 : Int32) (x2 : Int32) (x3 : Int32) (x4 : Int32) (x6 : Int32) (s0 : Int32) (v : gV) : Prop := p_X12_ranked_69 K8 K20 PK8 PK20 x1 x2 x3 x4 x6 (1 : Int32) s0 v
set_option maxHeartbeats 4000000 in
set_option maxRecDepth 100000 in
theorem w_X12_ranked_64 {E : gE} {d : Nat} {Q : gO → gS → Prop}   (hd : 2 ≤ d) (K8 : Int32 → Int32 → Int32 → Int32 → gV → Int32 × gV)  (K20 : Int32 → Int32 → Int32 → Int32 → Int32 → Int32 → gV → Int32 × gV)  (PK8 : Int32 → Int32 → Int32 → Int32 → gV → Prop)  (PK20 : Int32 → Int32 → Int32 → Int32 → Int32 → Int32 → gV → Prop)  (hK8 : ∀ (x1 : Int32) (x2 : Int32) (x3 : Int32) (x4 : Int32) (v : gV), PK8 x1 x2 x3 x4 v → gqIV Q (K8 x1 x2 x3 x4 v) → gG E m_X12_ranked d Q 0 0 (rS v) 8 [(0, .ref (gX E + 559)), (1, .int x1), (2, .int x2), (3, .int x3), (4, .int x4)] [])  (hK20 : ∀ (x1 : Int32) (x2 : Int32) (x3 : Int32) (x4 : Int32) (x5 : Int32) (x6 : Int32) (v : gV), PK20 x1 x2 x3 x4 x5 x6 v → gqIV Q (K20 x1 x2 x3 x4 x5 x6 v) → gG E m_X12_ranked d Q 0 0 (rS v) 20 [(0, .ref (gX E + 559)), (1, .int x1), (2, .int x2), (3, .int x3), (4, .int x4), (5, .int x5), (6, .int x6)] [])  (x1 : Int32) (x2 : Int32) (x3 : Int32) (x4 : Int32) (x6 : Int32) (s0 : Int32) (v : gV) (hp : p_X12_ranked_64 K8 K20 PK8 PK20 x1 x2 x3 x4 x6 s0 v) (hQ : gqIV Q (f_X12_ranked_64 K8 K20 x1 x2 x3 x4 x6 s0 v)) : gG E m_X12_ranked d Q 0 0 (rS v) 64 [(0, .ref (gX E + 559)), (1, .int x1), (2, .int x2), (3, .int x3), (4, .int x4), (6, .int x6)] [.int s0] := by
  refine g_iconst dX12_ranked_64 (1 : Int32) (by decide) ?_
  refine g_goto 69 dX12_ranked_65 (by decide) ?_
  exact w_X12_ranked_69  hd K8 K20 PK8 PK20 hK8 hK20 x1 x2 x3 x4 x6 (1 : Int32) s0 v hp hQ
def f_X12_ranked_20  (K8 : Int32 → Int32 → Int32 → Int32 → gV → Int32 × gV)  : Nat → Int32 → Int32 → Int32 → Int32 → Int32 → Int32 → gV → Int32 × gV
  | 0, _, _, _, _, _, _, v => (0, v)
  | n + 1, x1, x2, x3, x4, x5, x6, v => if x2 ≤ x6 then (if x5 = x1 then (if x3 = 0 then (f_X12_ranked_105  (f_X12_c x4 (0 : Int32) v) v) else (f_X12_ranked_105  (f_X12_p x4 (0 : Int32) v) v)) else (K8 x1 x2 x3 (x4 + 1) v)) else (if x6 = x4 then (f_X12_ranked_68 K8 (fun x1 x2 x3 x4 x5 x6 v => f_X12_ranked_20 K8 n x1 x2 x3 x4 x5 x6 v) x1 x2 x3 x4 x6 x5 v) else (if x3 = 0 then (if (f_X12_isClaimAhead x6 x4 v) = 0 then (f_X12_ranked_68 K8 (fun x1 x2 x3 x4 x5 x6 v => f_X12_ranked_20 K8 n x1 x2 x3 x4 x5 x6 v) x1 x2 x3 x4 x6 x5 v) else (f_X12_ranked_64 K8 (fun x1 x2 x3 x4 x5 x6 v => f_X12_ranked_20 K8 n x1 x2 x3 x4 x5 x6 v) x1 x2 x3 x4 x6 x5 v)) else (if (f_X12_isPolicyAhead x6 x4 v) = 0 then (f_X12_ranked_68 K8 (fun x1 x2 x3 x4 x5 x6 v => f_X12_ranked_20 K8 n x1 x2 x3 x4 x5 x6 v) x1 x2 x3 x4 x6 x5 v) else (f_X12_ranked_64 K8 (fun x1 x2 x3 x4 x5 x6 v => f_X12_ranked_20 K8 n x1 x2 x3 x4 x5 x6 v) x1 x2 x3 x4 x6 x5 v))))
def p_X12_ranked_20  (K8 : Int32 → Int32 → Int32 → Int32 → gV → Int32 × gV)  (PK8 : Int32 → Int32 → Int32 → Int32 → gV → Prop)  : Nat → Int32 → Int32 → Int32 → Int32 → Int32 → Int32 → gV → Prop
  | 0, _, _, _, _, _, _, _ => False
  | n + 1, x1, x2, x3, x4, x5, x6, v => ((x2 ≤ x6) → (((x5 = x1) → (((x3 = 0) → ((p_X12_c x4 (0 : Int32) v) ∧ (p_X12_ranked_105   (f_X12_c x4 (0 : Int32) v) v))) ∧ (¬ (x3 = 0) → ((p_X12_p x4 (0 : Int32) v) ∧ (p_X12_ranked_105   (f_X12_p x4 (0 : Int32) v) v))))) ∧ (¬ (x5 = x1) → (PK8 x1 x2 x3 (x4 + 1) v)))) ∧ (¬ (x2 ≤ x6) → (((x6 = x4) → (p_X12_ranked_68 K8 (fun x1 x2 x3 x4 x5 x6 v => f_X12_ranked_20 K8 n x1 x2 x3 x4 x5 x6 v) PK8 (fun x1 x2 x3 x4 x5 x6 v => p_X12_ranked_20 K8 PK8 n x1 x2 x3 x4 x5 x6 v) x1 x2 x3 x4 x6 x5 v)) ∧ (¬ (x6 = x4) → (((x3 = 0) → ((p_X12_isClaimAhead x6 x4 v) ∧ ((((f_X12_isClaimAhead x6 x4 v) = 0) → (p_X12_ranked_68 K8 (fun x1 x2 x3 x4 x5 x6 v => f_X12_ranked_20 K8 n x1 x2 x3 x4 x5 x6 v) PK8 (fun x1 x2 x3 x4 x5 x6 v => p_X12_ranked_20 K8 PK8 n x1 x2 x3 x4 x5 x6 v) x1 x2 x3 x4 x6 x5 v)) ∧ (¬ ((f_X12_isClaimAhead x6 x4 v) = 0) → (p_X12_ranked_64 K8 (fun x1 x2 x3 x4 x5 x6 v => f_X12_ranked_20 K8 n x1 x2 x3 x4 x5 x6 v) PK8 (fun x1 x2 x3 x4 x5 x6 v => p_X12_ranked_20 K8 PK8 n x1 x2 x3 x4 x5 x6 v) x1 x2 x3 x4 x6 x5 v))))) ∧ (¬ (x3 = 0) → ((p_X12_isPolicyAhead x6 x4 v) ∧ ((((f_X12_isPolicyAhead x6 x4 v) = 0) → (p_X12_ranked_68 K8 (fun x1 x2 x3 x4 x5 x6 v => f_X12_ranked_20 K8 n x1 x2 x3 x4 x5 x6 v) PK8 (fun x1 x2 x3 x4 x5 x6 v => p_X12_ranked_20 K8 PK8 n x1 x2 x3 x4 x5 x6 v) x1 x2 x3 x4 x6 x5 v)) ∧ (¬ ((f_X12_isPolicyAhead x6 x4 v) = 0) → (p_X12_ranked_64 K8 (fun x1 x2 x3 x4 x5 x6 v => f_X12_ranked_20 K8 n x1 x2 x3 x4 x5 x6 v) PK8 (fun x1 x2 x3 x4 x5 x6 v => p_X12_ranked_20 K8 PK8 n x1 x2 x3 x4 x5 x6 v) x1 x2 x3 x4 x6 x5 v)))))))))
set_option maxHeartbeats 4000000 in
set_option maxRecDepth 100000 in
theorem w_X12_ranked_20 {E : gE} {d : Nat} {Q : gO → gS → Prop}   (hd : 2 ≤ d) (K8 : Int32 → Int32 → Int32 → Int32 → gV → Int32 × gV)  (PK8 : Int32 → Int32 → Int32 → Int32 → gV → Prop)  (hK8 : ∀ (x1 : Int32) (x2 : Int32) (x3 : Int32) (x4 : Int32) (v : gV), PK8 x1 x2 x3 x4 v → gqIV Q (K8 x1 x2 x3 x4 v) → gG E m_X12_ranked d Q 0 0 (rS v) 8 [(0, .ref (gX E + 559)), (1, .int x1), (2, .int x2), (3, .int x3), (4, .int x4)] [])  : ∀ (n : Nat) (x1 : Int32) (x2 : Int32) (x3 : Int32) (x4 : Int32) (x5 : Int32) (x6 : Int32) (v : gV), p_X12_ranked_20 K8 PK8 n x1 x2 x3 x4 x5 x6 v → gqIV Q (f_X12_ranked_20 K8 n x1 x2 x3 x4 x5 x6 v) → gG E m_X12_ranked d Q 0 0 (rS v) 20 [(0, .ref (gX E + 559)), (1, .int x1), (2, .int x2), (3, .int x3), (4, .int x4), (5, .int x5), (6, .int x6)] [] := by
  intro n
  induction n with
  | zero => intro x1 x2 x3 x4 x5 x6 v hp; exact hp.elim
  | succ n ih =>
    intro x1 x2 x3 x4 x5 x6 v hp hQ
    refine g_iload 6 dX12_ranked_20 rfl ?_
    refine g_iload_n 2 dX12_ranked_22 rfl ?_
    refine g_icmp_ge 78 dX12_ranked_23 (by decide) (fun h3 => ?_) (fun h3 => ?_)
    · have hQ := qp (P := gqIV Q) h3 hQ
      have hp := hp.1 h3
      refine g_iload 5 dX12_ranked_78 rfl ?_
      refine g_iload_n 1 dX12_ranked_80 rfl ?_
      refine g_icmp_ne 106 dX12_ranked_81 (by decide) (fun h4 => ?_) (fun h4 => ?_)
      · have hQ := qn (P := gqIV Q) h4 hQ
        have hp := hp.2 h4
        refine g_iinc 4 (x4 + 1) [(4, .int (x4 + 1)), (0, .ref (gX E + 559)), (1, .int x1), (2, .int x2), (3, .int x3), (5, .int x5), (6, .int x6)] dX12_ranked_106 rfl rfl (by decide) rfl ?_
        refine g_goto 8 dX12_ranked_109 (by decide) ?_
        refine g_lv (lv' := [(0, .ref (gX E + 559)), (1, .int x1), (2, .int x2), (3, .int x3), (4, .int (x4 + 1))]) [1, 2, 3, 4, 0] rfl ?_
        exact hK8 x1 x2 x3 (x4 + 1) v hp hQ
      · have hQ := qp (P := gqIV Q) h4 hQ
        have hp := hp.1 h4
        refine g_iload_n 3 dX12_ranked_84 rfl ?_
        refine g_if_eq 98 dX12_ranked_85 (by decide) (fun h5 => ?_) (fun h5 => ?_)
        · have hQ := qp (P := gqIV Q) h5 hQ
          have hp := hp.1 h5
          refine g_aload_n 0 dX12_ranked_98 rfl ?_
          refine g_iload 4 dX12_ranked_99 rfl ?_
          refine g_iconst dX12_ranked_101 (0 : Int32) (by decide) ?_
          obtain ⟨h6, hp⟩ := hp
          refine g_callV (rest := []) s_X12_104_X12 rfl (c_X12_c (E := E) (d := d - 1)   (by omega) x4 (0 : Int32) v h6) (by decide : kd 559 = (0, 9)) (show 559 < 572 by decide) rfl rfl (Nat.le_of_ble_eq_true rfl) (by omega) (by decide) (by decide) dX12_ranked_102 (adV ?_) axN
          refine g_lv (lv' := []) [] rfl ?_
          exact w_X12_ranked_105  hd    (f_X12_c x4 (0 : Int32) v) v hp hQ
        · have hQ := qn (P := gqIV Q) h5 hQ
          have hp := hp.2 h5
          refine g_aload_n 0 dX12_ranked_88 rfl ?_
          refine g_iload 4 dX12_ranked_89 rfl ?_
          refine g_iconst dX12_ranked_91 (0 : Int32) (by decide) ?_
          obtain ⟨h7, hp⟩ := hp
          refine g_callV (rest := []) s_X12_79_X12 rfl (c_X12_p (E := E) (d := d - 1)   (by omega) x4 (0 : Int32) v h7) (by decide : kd 559 = (0, 9)) (show 559 < 572 by decide) rfl rfl (Nat.le_of_ble_eq_true rfl) (by omega) (by decide) (by decide) dX12_ranked_92 (adV ?_) axN
          refine g_goto 105 dX12_ranked_95 (by decide) ?_
          refine g_lv (lv' := []) [] rfl ?_
          exact w_X12_ranked_105  hd    (f_X12_p x4 (0 : Int32) v) v hp hQ
    · have hQ := qn (P := gqIV Q) h3 hQ
      have hp := hp.2 h3
      refine g_iload 5 dX12_ranked_26 rfl ?_
      refine g_iload 6 dX12_ranked_28 rfl ?_
      refine g_iload 4 dX12_ranked_30 rfl ?_
      refine g_icmp_eq 68 dX12_ranked_32 (by decide) (fun h8 => ?_) (fun h8 => ?_)
      · have hQ := qp (P := gqIV Q) h8 hQ
        have hp := hp.1 h8
        refine g_lv (lv' := [(0, .ref (gX E + 559)), (1, .int x1), (2, .int x2), (3, .int x3), (4, .int x4), (6, .int x6)]) [0, 1, 2, 3, 4, 6] rfl ?_
        exact w_X12_ranked_68  hd K8 (fun x1 x2 x3 x4 x5 x6 v => f_X12_ranked_20 K8 n x1 x2 x3 x4 x5 x6 v) PK8 (fun x1 x2 x3 x4 x5 x6 v => p_X12_ranked_20 K8 PK8 n x1 x2 x3 x4 x5 x6 v) hK8 ih x1 x2 x3 x4 x6 x5 v hp hQ
      · have hQ := qn (P := gqIV Q) h8 hQ
        have hp := hp.2 h8
        refine g_iload_n 3 dX12_ranked_35 rfl ?_
        refine g_if_eq 53 dX12_ranked_36 (by decide) (fun h9 => ?_) (fun h9 => ?_)
        · have hQ := qp (P := gqIV Q) h9 hQ
          have hp := hp.1 h9
          refine g_aload_n 0 dX12_ranked_53 rfl ?_
          refine g_iload 6 dX12_ranked_54 rfl ?_
          refine g_iload 4 dX12_ranked_56 rfl ?_
          obtain ⟨h10, hp⟩ := hp
          refine g_callV (rest := [.int x5]) s_X12_273_X12 rfl (c_X12_isClaimAhead (E := E) (d := d - 1)   (by omega) x6 x4 v h10) (by decide : kd 559 = (0, 9)) (show 559 < 572 by decide) rfl rfl (Nat.le_of_ble_eq_true rfl) (by omega) (by decide) (by decide) dX12_ranked_58 (adV ?_) axN
          refine g_if_eq 68 dX12_ranked_61 (by decide) (fun h11 => ?_) (fun h11 => ?_)
          · have hQ := qp (P := gqIV Q) h11 hQ
            have hp := hp.1 h11
            refine g_lv (lv' := [(0, .ref (gX E + 559)), (1, .int x1), (2, .int x2), (3, .int x3), (4, .int x4), (6, .int x6)]) [0, 1, 2, 3, 4, 6] rfl ?_
            exact w_X12_ranked_68  hd K8 (fun x1 x2 x3 x4 x5 x6 v => f_X12_ranked_20 K8 n x1 x2 x3 x4 x5 x6 v) PK8 (fun x1 x2 x3 x4 x5 x6 v => p_X12_ranked_20 K8 PK8 n x1 x2 x3 x4 x5 x6 v) hK8 ih x1 x2 x3 x4 x6 x5 v hp hQ
          · have hQ := qn (P := gqIV Q) h11 hQ
            have hp := hp.2 h11
            refine g_lv (lv' := [(0, .ref (gX E + 559)), (1, .int x1), (2, .int x2), (3, .int x3), (4, .int x4), (6, .int x6)]) [0, 1, 2, 3, 4, 6] rfl ?_
            exact w_X12_ranked_64  hd K8 (fun x1 x2 x3 x4 x5 x6 v => f_X12_ranked_20 K8 n x1 x2 x3 x4 x5 x6 v) PK8 (fun x1 x2 x3 x4 x5 x6 v => p_X12_ranked_20 K8 PK8 n x1 x2 x3 x4 x5 x6 v) hK8 ih x1 x2 x3 x4 x6 x5 v hp hQ
        · have hQ := qn (P := gqIV Q) h9 hQ
          have hp := hp.2 h9
          refine g_aload_n 0 dX12_ranked_39 rfl ?_
          refine g_iload 6 dX12_ranked_40 rfl ?_
          refine g_iload 4 dX12_ranked_42 rfl ?_
          obtain ⟨h12, hp⟩ := hp
          refine g_callV (rest := [.int x5]) s_X12_270_X12 rfl (c_X12_isPolicyAhead (E := E) (d := d - 1)   (by omega) x6 x4 v h12) (by decide : kd 559 = (0, 9)) (show 559 < 572 by decide) rfl rfl (Nat.le_of_ble_eq_true rfl) (by omega) (by decide) (by decide) dX12_ranked_44 (adV ?_) axN
          refine g_if_eq 68 dX12_ranked_47 (by decide) (fun h13 => ?_) (fun h13 => ?_)
          · have hQ := qp (P := gqIV Q) h13 hQ
            have hp := hp.1 h13
            refine g_lv (lv' := [(0, .ref (gX E + 559)), (1, .int x1), (2, .int x2), (3, .int x3), (4, .int x4), (6, .int x6)]) [0, 1, 2, 3, 4, 6] rfl ?_
            exact w_X12_ranked_68  hd K8 (fun x1 x2 x3 x4 x5 x6 v => f_X12_ranked_20 K8 n x1 x2 x3 x4 x5 x6 v) PK8 (fun x1 x2 x3 x4 x5 x6 v => p_X12_ranked_20 K8 PK8 n x1 x2 x3 x4 x5 x6 v) hK8 ih x1 x2 x3 x4 x6 x5 v hp hQ
          · have hQ := qn (P := gqIV Q) h13 hQ
            have hp := hp.2 h13
            refine g_goto 64 dX12_ranked_50 (by decide) ?_
            refine g_lv (lv' := [(0, .ref (gX E + 559)), (1, .int x1), (2, .int x2), (3, .int x3), (4, .int x4), (6, .int x6)]) [0, 1, 2, 3, 4, 6] rfl ?_
            exact w_X12_ranked_64  hd K8 (fun x1 x2 x3 x4 x5 x6 v => f_X12_ranked_20 K8 n x1 x2 x3 x4 x5 x6 v) PK8 (fun x1 x2 x3 x4 x5 x6 v => p_X12_ranked_20 K8 PK8 n x1 x2 x3 x4 x5 x6 v) hK8 ih x1 x2 x3 x4 x6 x5 v hp hQ
def f_X12_ranked_8  : Nat → Int32 → Int32 → Int32 → Int32 → gV → Int32 × gV
  | 0, _, _, _, _, v => (0, v)
  | n + 1, x1, x2, x3, x4, v => if x2 ≤ x4 then (f_X12_ranked_117  ((f_X12_fail (1 : Int32) v).1) (f_X12_fail (1 : Int32) v).2) else (f_X12_ranked_20 (fun x1 x2 x3 x4 v => f_X12_ranked_8  n x1 x2 x3 x4 v) 5000 x1 x2 x3 x4 (0 : Int32) (0 : Int32) v)
def p_X12_ranked_8  : Nat → Int32 → Int32 → Int32 → Int32 → gV → Prop
  | 0, _, _, _, _, _ => False
  | n + 1, x1, x2, x3, x4, v => ((x2 ≤ x4) → ((p_X12_fail (1 : Int32) v) ∧ (p_X12_ranked_117   ((f_X12_fail (1 : Int32) v).1) (f_X12_fail (1 : Int32) v).2))) ∧ (¬ (x2 ≤ x4) → (p_X12_ranked_20 (fun x1 x2 x3 x4 v => f_X12_ranked_8  n x1 x2 x3 x4 v) (fun x1 x2 x3 x4 v => p_X12_ranked_8   n x1 x2 x3 x4 v) 5000 x1 x2 x3 x4 (0 : Int32) (0 : Int32) v))
set_option maxHeartbeats 4000000 in
set_option maxRecDepth 100000 in
theorem w_X12_ranked_8 {E : gE} {d : Nat} {Q : gO → gS → Prop}   (hd : 2 ≤ d) : ∀ (n : Nat) (x1 : Int32) (x2 : Int32) (x3 : Int32) (x4 : Int32) (v : gV), p_X12_ranked_8   n x1 x2 x3 x4 v → gqIV Q (f_X12_ranked_8  n x1 x2 x3 x4 v) → gG E m_X12_ranked d Q 0 0 (rS v) 8 [(0, .ref (gX E + 559)), (1, .int x1), (2, .int x2), (3, .int x3), (4, .int x4)] [] := by
  intro n
  induction n with
  | zero => intro x1 x2 x3 x4 v hp; exact hp.elim
  | succ n ih =>
    intro x1 x2 x3 x4 v hp hQ
    refine g_iload 4 dX12_ranked_8 rfl ?_
    refine g_iload_n 2 dX12_ranked_10 rfl ?_
    refine g_icmp_ge 112 dX12_ranked_11 (by decide) (fun h1 => ?_) (fun h1 => ?_)
    · have hQ := qp (P := gqIV Q) h1 hQ
      have hp := hp.1 h1
      refine g_aload_n 0 dX12_ranked_112 rfl ?_
      refine g_iconst dX12_ranked_113 (1 : Int32) (by decide) ?_
      obtain ⟨h2, hp⟩ := hp
      refine g_callV (rest := []) s_X12_94_X12 rfl (c_X12_fail (E := E) (d := d - 1)   (by omega) (1 : Int32) v h2) (by decide : kd 559 = (0, 9)) (show 559 < 572 by decide) rfl rfl (Nat.le_of_ble_eq_true rfl) (by omega) (by decide) (by decide) dX12_ranked_114 (adV ?_) axN
      refine g_lv (lv' := []) [] rfl ?_
      exact w_X12_ranked_117  hd    ((f_X12_fail (1 : Int32) v).1) (f_X12_fail (1 : Int32) v).2 hp hQ
    · have hQ := qn (P := gqIV Q) h1 hQ
      have hp := hp.2 h1
      refine g_iconst dX12_ranked_14 (0 : Int32) (by decide) ?_
      refine g_istore [(5, .int ((0 : Int32))), (0, .ref (gX E + 559)), (1, .int x1), (2, .int x2), (3, .int x3), (4, .int x4)] dX12_ranked_15 (by decide) rfl ?_
      refine g_iconst dX12_ranked_17 (0 : Int32) (by decide) ?_
      refine g_istore [(6, .int ((0 : Int32))), (5, .int ((0 : Int32))), (0, .ref (gX E + 559)), (1, .int x1), (2, .int x2), (3, .int x3), (4, .int x4)] dX12_ranked_18 (by decide) rfl ?_
      refine g_lv (lv' := [(0, .ref (gX E + 559)), (1, .int x1), (2, .int x2), (3, .int x3), (4, .int x4), (5, .int ((0 : Int32))), (6, .int ((0 : Int32)))]) [2, 3, 4, 5, 6, 1, 0] rfl ?_
      exact w_X12_ranked_20  hd (fun x1 x2 x3 x4 v => f_X12_ranked_8  n x1 x2 x3 x4 v) (fun x1 x2 x3 x4 v => p_X12_ranked_8   n x1 x2 x3 x4 v) ih 5000 x1 x2 x3 x4 (0 : Int32) (0 : Int32) v hp hQ
def f_X12_ranked_5  (x1 : Int32) (x2 : Int32) (x3 : Int32) (v : gV) : Int32 × gV := f_X12_ranked_8  5000 x1 x2 x3 (0 : Int32) v
def p_X12_ranked_5  (x1 : Int32) (x2 : Int32) (x3 : Int32) (v : gV) : Prop := p_X12_ranked_8   5000 x1 x2 x3 (0 : Int32) v
set_option maxHeartbeats 4000000 in
set_option maxRecDepth 100000 in
theorem w_X12_ranked_5 {E : gE} {d : Nat} {Q : gO → gS → Prop}   (hd : 2 ≤ d) (x1 : Int32) (x2 : Int32) (x3 : Int32) (v : gV) (hp : p_X12_ranked_5   x1 x2 x3 v) (hQ : gqIV Q (f_X12_ranked_5  x1 x2 x3 v)) : gG E m_X12_ranked d Q 0 0 (rS v) 5 [(0, .ref (gX E + 559)), (1, .int x1), (2, .int x2), (3, .int x3)] [] := by
  refine g_iconst dX12_ranked_5 (0 : Int32) (by decide) ?_
  refine g_istore [(4, .int ((0 : Int32))), (0, .ref (gX E + 559)), (1, .int x1), (2, .int x2), (3, .int x3)] dX12_ranked_6 (by decide) rfl ?_
  refine g_lv (lv' := [(0, .ref (gX E + 559)), (1, .int x1), (2, .int x2), (3, .int x3), (4, .int ((0 : Int32)))]) [1, 2, 3, 4, 0] rfl ?_
  exact w_X12_ranked_8  hd    5000 x1 x2 x3 (0 : Int32) v hp hQ
def f_X12_ranked_0  (x1 : Int32) (x2 : Int32) (x3 : Int32) (v : gV) : Int32 × gV := f_X12_ranked_5  x1 x2 x3 (vM v 559 6 (0 : Int32))
def p_X12_ranked_0  (x1 : Int32) (x2 : Int32) (x3 : Int32) (v : gV) : Prop := p_X12_ranked_5   x1 x2 x3 (vM v 559 6 (0 : Int32))
set_option maxHeartbeats 4000000 in
set_option maxRecDepth 100000 in
theorem w_X12_ranked_0 {E : gE} {d : Nat} {Q : gO → gS → Prop}   (hd : 2 ≤ d) (x1 : Int32) (x2 : Int32) (x3 : Int32) (v : gV) (hp : p_X12_ranked_0   x1 x2 x3 v) (hQ : gqIV Q (f_X12_ranked_0  x1 x2 x3 v)) : gG E m_X12_ranked d Q 0 0 (rS v) 0 [(0, .ref (gX E + 559)), (1, .int x1), (2, .int x2), (3, .int x3)] [] := by
  refine g_aload_n 0 dX12_ranked_0 rfl ?_
  refine g_iconst dX12_ranked_1 (0 : Int32) (by decide) ?_
  refine r_put pf_X12_28_X12 rfl (by decide : kd 559 = (0, 9)) (by decide) (by decide) rfl (show 559 < 572 by decide) rfl rfl dX12_ranked_2 ?_
  exact w_X12_ranked_5  hd    x1 x2 x3 (vM v 559 6 (0 : Int32)) hp hQ
def f_X12_ranked  (x1 : Int32) (x2 : Int32) (x3 : Int32) (v : gV) : Int32 × gV := f_X12_ranked_0 x1 x2 x3 v
def p_X12_ranked  (x1 : Int32) (x2 : Int32) (x3 : Int32) (v : gV) : Prop := p_X12_ranked_0 x1 x2 x3 v
theorem c_X12_ranked {E : gE} {d : Nat}   (hd : 2 ≤ d) (x1 : Int32) (x2 : Int32) (x3 : Int32) (v : gV) (hp : p_X12_ranked x1 x2 x3 v) : CT E m_X12_ranked d 0 0 [.ref (gX E + 559), .int x1, .int x2, .int x3] (rS v) (Cq (.inl (some (.int ((f_X12_ranked x1 x2 x3 v).1)))) (f_X12_ranked x1 x2 x3 v).2) := CT.of ok_X12_ranked rfl (Nat.le_of_ble_eq_true rfl) (w_X12_ranked_0  hd x1 x2 x3 v hp ⟨rfl, rfl⟩)
def f_X12_policyByLoad_12  (s0 : Int32) (v : gV) : Int32 × gV := (s0, v)
def p_X12_policyByLoad_12  (s0 : Int32) (v : gV) : Prop := True
set_option maxHeartbeats 4000000 in
set_option maxRecDepth 100000 in
theorem w_X12_policyByLoad_12 {E : gE} {d : Nat} {Q : gO → gS → Prop}   (hd : 3 ≤ d) (s0 : Int32) (v : gV) (hp : p_X12_policyByLoad_12   s0 v) (hQ : gqIV Q (f_X12_policyByLoad_12  s0 v)) : gG E m_X12_policyByLoad d Q 0 0 (rS v) 12 [] [.int s0] := by
  exact g_iret rfl dX12_policyByLoad_12 hQ
def f_X12_policyByLoad_0  (x1 : Int32) (v : gV) : Int32 × gV := f_X12_policyByLoad_12  ((f_X12_ranked x1 (v.1 560 (0 : Int32).toNatClampNeg) (1 : Int32) v).1) (f_X12_ranked x1 (v.1 560 (0 : Int32).toNatClampNeg) (1 : Int32) v).2
def p_X12_policyByLoad_0  (x1 : Int32) (v : gV) : Prop := (p_X12_ranked x1 (v.1 560 (0 : Int32).toNatClampNeg) (1 : Int32) v) ∧ (p_X12_policyByLoad_12   ((f_X12_ranked x1 (v.1 560 (0 : Int32).toNatClampNeg) (1 : Int32) v).1) (f_X12_ranked x1 (v.1 560 (0 : Int32).toNatClampNeg) (1 : Int32) v).2)
set_option maxHeartbeats 4000000 in
set_option maxRecDepth 100000 in
theorem w_X12_policyByLoad_0 {E : gE} {d : Nat} {Q : gO → gS → Prop}   (hd : 3 ≤ d) (x1 : Int32) (v : gV) (hp : p_X12_policyByLoad_0   x1 v) (hQ : gqIV Q (f_X12_policyByLoad_0  x1 v)) : gG E m_X12_policyByLoad d Q 0 0 (rS v) 0 [(0, .ref (gX E + 559)), (1, .int x1)] [] := by
  refine g_aload_n 0 dX12_policyByLoad_0 rfl ?_
  refine g_iload_n 1 dX12_policyByLoad_1 rfl ?_
  refine g_aload_n 0 dX12_policyByLoad_2 rfl ?_
  refine r_get (.ref (gX E + 560)) f_X12_7_X12 rfl (by decide : kd 559 = (0, 9)) (show 559 < 572 by decide) dX12_policyByLoad_3 (fun _ => rfl) ?_
  refine g_iconst dX12_policyByLoad_6 (0 : Int32) (by decide) ?_
  refine g_iald (by decide : kd 560 = (1, 300)) (show 560 < 572 by decide) (show ¬ (_ ∨ _) by decide) dX12_policyByLoad_7 ?_
  refine g_iconst dX12_policyByLoad_8 (1 : Int32) (by decide) ?_
  obtain ⟨h1, hp⟩ := hp
  refine g_callV (rest := []) s_X12_276_X12 rfl (c_X12_ranked (E := E) (d := d - 1)   (by omega) x1 (v.1 560 (0 : Int32).toNatClampNeg) (1 : Int32) v h1) (by decide : kd 559 = (0, 9)) (show 559 < 572 by decide) rfl rfl (Nat.le_of_ble_eq_true rfl) (by omega) (by decide) (by decide) dX12_policyByLoad_9 (adV ?_) axN
  refine g_lv (lv' := []) [] rfl ?_
  exact w_X12_policyByLoad_12  hd    ((f_X12_ranked x1 (v.1 560 (0 : Int32).toNatClampNeg) (1 : Int32) v).1) (f_X12_ranked x1 (v.1 560 (0 : Int32).toNatClampNeg) (1 : Int32) v).2 hp hQ
def f_X12_policyByLoad  (x1 : Int32) (v : gV) : Int32 × gV := f_X12_policyByLoad_0 x1 v
def p_X12_policyByLoad  (x1 : Int32) (v : gV) : Prop := p_X12_policyByLoad_0 x1 v
theorem c_X12_policyByLoad {E : gE} {d : Nat}   (hd : 3 ≤ d) (x1 : Int32) (v : gV) (hp : p_X12_policyByLoad x1 v) : CT E m_X12_policyByLoad d 0 0 [.ref (gX E + 559), .int x1] (rS v) (Cq (.inl (some (.int ((f_X12_policyByLoad x1 v).1)))) (f_X12_policyByLoad x1 v).2) := CT.of ok_X12_policyByLoad rfl (Nat.le_of_ble_eq_true rfl) (w_X12_policyByLoad_0  hd x1 v hp ⟨rfl, rfl⟩)
def f_X12_claimByUnpaid_12  (s0 : Int32) (v : gV) : Int32 × gV := (s0, v)
def p_X12_claimByUnpaid_12  (s0 : Int32) (v : gV) : Prop := True
set_option maxHeartbeats 4000000 in
set_option maxRecDepth 100000 in
theorem w_X12_claimByUnpaid_12 {E : gE} {d : Nat} {Q : gO → gS → Prop}   (hd : 3 ≤ d) (s0 : Int32) (v : gV) (hp : p_X12_claimByUnpaid_12   s0 v) (hQ : gqIV Q (f_X12_claimByUnpaid_12  s0 v)) : gG E m_X12_claimByUnpaid d Q 0 0 (rS v) 12 [] [.int s0] := by
  exact g_iret rfl dX12_claimByUnpaid_12 hQ
def f_X12_claimByUnpaid_0  (x1 : Int32) (v : gV) : Int32 × gV := f_X12_claimByUnpaid_12  ((f_X12_ranked x1 (v.1 560 (1 : Int32).toNatClampNeg) (0 : Int32) v).1) (f_X12_ranked x1 (v.1 560 (1 : Int32).toNatClampNeg) (0 : Int32) v).2
def p_X12_claimByUnpaid_0  (x1 : Int32) (v : gV) : Prop := (p_X12_ranked x1 (v.1 560 (1 : Int32).toNatClampNeg) (0 : Int32) v) ∧ (p_X12_claimByUnpaid_12   ((f_X12_ranked x1 (v.1 560 (1 : Int32).toNatClampNeg) (0 : Int32) v).1) (f_X12_ranked x1 (v.1 560 (1 : Int32).toNatClampNeg) (0 : Int32) v).2)
set_option maxHeartbeats 4000000 in
set_option maxRecDepth 100000 in
theorem w_X12_claimByUnpaid_0 {E : gE} {d : Nat} {Q : gO → gS → Prop}   (hd : 3 ≤ d) (x1 : Int32) (v : gV) (hp : p_X12_claimByUnpaid_0   x1 v) (hQ : gqIV Q (f_X12_claimByUnpaid_0  x1 v)) : gG E m_X12_claimByUnpaid d Q 0 0 (rS v) 0 [(0, .ref (gX E + 559)), (1, .int x1)] [] := by
  refine g_aload_n 0 dX12_claimByUnpaid_0 rfl ?_
  refine g_iload_n 1 dX12_claimByUnpaid_1 rfl ?_
  refine g_aload_n 0 dX12_claimByUnpaid_2 rfl ?_
  refine r_get (.ref (gX E + 560)) f_X12_7_X12 rfl (by decide : kd 559 = (0, 9)) (show 559 < 572 by decide) dX12_claimByUnpaid_3 (fun _ => rfl) ?_
  refine g_iconst dX12_claimByUnpaid_6 (1 : Int32) (by decide) ?_
  refine g_iald (by decide : kd 560 = (1, 300)) (show 560 < 572 by decide) (show ¬ (_ ∨ _) by decide) dX12_claimByUnpaid_7 ?_
  refine g_iconst dX12_claimByUnpaid_8 (0 : Int32) (by decide) ?_
  obtain ⟨h1, hp⟩ := hp
  refine g_callV (rest := []) s_X12_276_X12 rfl (c_X12_ranked (E := E) (d := d - 1)   (by omega) x1 (v.1 560 (1 : Int32).toNatClampNeg) (0 : Int32) v h1) (by decide : kd 559 = (0, 9)) (show 559 < 572 by decide) rfl rfl (Nat.le_of_ble_eq_true rfl) (by omega) (by decide) (by decide) dX12_claimByUnpaid_9 (adV ?_) axN
  refine g_lv (lv' := []) [] rfl ?_
  exact w_X12_claimByUnpaid_12  hd    ((f_X12_ranked x1 (v.1 560 (1 : Int32).toNatClampNeg) (0 : Int32) v).1) (f_X12_ranked x1 (v.1 560 (1 : Int32).toNatClampNeg) (0 : Int32) v).2 hp hQ
def f_X12_claimByUnpaid  (x1 : Int32) (v : gV) : Int32 × gV := f_X12_claimByUnpaid_0 x1 v
def p_X12_claimByUnpaid  (x1 : Int32) (v : gV) : Prop := p_X12_claimByUnpaid_0 x1 v
theorem c_X12_claimByUnpaid {E : gE} {d : Nat}   (hd : 3 ≤ d) (x1 : Int32) (v : gV) (hp : p_X12_claimByUnpaid x1 v) : CT E m_X12_claimByUnpaid d 0 0 [.ref (gX E + 559), .int x1] (rS v) (Cq (.inl (some (.int ((f_X12_claimByUnpaid x1 v).1)))) (f_X12_claimByUnpaid x1 v).2) := CT.of ok_X12_claimByUnpaid rfl (Nat.le_of_ble_eq_true rfl) (w_X12_claimByUnpaid_0  hd x1 v hp ⟨rfl, rfl⟩)
def f_X12_isConsistent_14  (s0 : Int32) (v : gV) : Int32 × gV := (s0, v)
def p_X12_isConsistent_14  (s0 : Int32) (v : gV) : Prop := (s0 = 0 ∨ s0 = 1) ∧ (True)
set_option maxHeartbeats 4000000 in
set_option maxRecDepth 100000 in
theorem w_X12_isConsistent_14 {E : gE} {d : Nat} {Q : gO → gS → Prop}   (hd : 1 ≤ d) (s0 : Int32) (v : gV) (hp : p_X12_isConsistent_14   s0 v) (hQ : gqIV Q (f_X12_isConsistent_14  s0 v)) : gG E m_X12_isConsistent d Q 0 0 (rS v) 14 [] [.int s0] := by
  obtain ⟨h3, hp⟩ := hp
  exact g_zret rfl (nz h3) dX12_isConsistent_14 hQ
def f_X12_isConsistent_5  (s0 : Int32) (v : gV) : Int32 × gV := if s0 = (1 : Int32) then (f_X12_isConsistent_14  (1 : Int32) v) else (f_X12_isConsistent_14  (0 : Int32) v)
def p_X12_isConsistent_5  (s0 : Int32) (v : gV) : Prop := ((s0 = (1 : Int32)) → (p_X12_isConsistent_14   (1 : Int32) v)) ∧ (¬ (s0 = (1 : Int32)) → (p_X12_isConsistent_14   (0 : Int32) v))
set_option maxHeartbeats 4000000 in
set_option maxRecDepth 100000 in
theorem w_X12_isConsistent_5 {E : gE} {d : Nat} {Q : gO → gS → Prop}   (hd : 1 ≤ d) (s0 : Int32) (v : gV) (hp : p_X12_isConsistent_5   s0 v) (hQ : gqIV Q (f_X12_isConsistent_5  s0 v)) : gG E m_X12_isConsistent d Q 0 0 (rS v) 5 [] [.int s0] := by
  refine g_iconst dX12_isConsistent_5 (1 : Int32) (by decide) ?_
  refine g_icmp_ne 13 dX12_isConsistent_6 (by decide) (fun h2 => ?_) (fun h2 => ?_)
  · have hQ := qn (P := gqIV Q) h2 hQ
    have hp := hp.2 h2
    refine g_iconst dX12_isConsistent_13 (0 : Int32) (by decide) ?_
    exact w_X12_isConsistent_14  hd    (0 : Int32) v hp hQ
  · have hQ := qp (P := gqIV Q) h2 hQ
    have hp := hp.1 h2
    refine g_iconst dX12_isConsistent_9 (1 : Int32) (by decide) ?_
    refine g_goto 14 dX12_isConsistent_10 (by decide) ?_
    exact w_X12_isConsistent_14  hd    (1 : Int32) v hp hQ
def f_X12_isConsistent_0   (v : gV) : Int32 × gV := f_X12_isConsistent_5  ((f_X12_plain (1 : Int32) v).1) (f_X12_plain (1 : Int32) v).2
def p_X12_isConsistent_0   (v : gV) : Prop := (p_X12_plain (1 : Int32) v) ∧ (p_X12_isConsistent_5   ((f_X12_plain (1 : Int32) v).1) (f_X12_plain (1 : Int32) v).2)
set_option maxHeartbeats 4000000 in
set_option maxRecDepth 100000 in
theorem w_X12_isConsistent_0 {E : gE} {d : Nat} {Q : gO → gS → Prop}   (hd : 1 ≤ d)  (v : gV) (hp : p_X12_isConsistent_0    v) (hQ : gqIV Q (f_X12_isConsistent_0   v)) : gG E m_X12_isConsistent d Q 0 0 (rS v) 0 [(0, .ref (gX E + 559))] [] := by
  refine g_aload_n 0 dX12_isConsistent_0 rfl ?_
  refine g_iconst dX12_isConsistent_1 (1 : Int32) (by decide) ?_
  obtain ⟨h1, hp⟩ := hp
  refine g_callV (rest := []) s_X12_210_X12 rfl (c_X12_plain (E := E) (d := d - 1)   (by omega) (1 : Int32) v h1) (by decide : kd 559 = (0, 9)) (show 559 < 572 by decide) rfl rfl (Nat.le_of_ble_eq_true rfl) (by omega) (by decide) (by decide) dX12_isConsistent_2 (adV ?_) axN
  refine g_lv (lv' := []) [] rfl ?_
  exact w_X12_isConsistent_5  hd    ((f_X12_plain (1 : Int32) v).1) (f_X12_plain (1 : Int32) v).2 hp hQ
def f_X12_isConsistent   (v : gV) : Int32 × gV := f_X12_isConsistent_0  v
def p_X12_isConsistent   (v : gV) : Prop := p_X12_isConsistent_0  v
theorem c_X12_isConsistent {E : gE} {d : Nat}   (hd : 1 ≤ d)  (v : gV) (hp : p_X12_isConsistent  v) : CT E m_X12_isConsistent d 0 0 [.ref (gX E + 559)] (rS v) (Cq (.inl (some (.int ((f_X12_isConsistent  v).1)))) (f_X12_isConsistent  v).2) := CT.of ok_X12_isConsistent rfl (Nat.le_of_ble_eq_true rfl) (w_X12_isConsistent_0  hd  v hp ⟨rfl, rfl⟩)
def f_X12_write_20   (v : gV) : gV := v
def p_X12_write_20   (v : gV) : Prop := True
set_option maxHeartbeats 4000000 in
set_option maxRecDepth 100000 in
theorem w_X12_write_20 {E : gE} {d : Nat} {Q : gO → gS → Prop}   (hd : 0 ≤ d)  (v : gV) (hp : p_X12_write_20    v) (hQ : gqV Q (f_X12_write_20   v)) : gG E m_X12_write d Q 0 0 (rS v) 20 [] [] := by
  exact g_vret rfl dX12_write_20 hQ
def f_X12_write_10   (v : gV) : gV := f_X12_write_20   (vM v 559 12 ((v.1 559 12) + (1 : Int32)))
def p_X12_write_10   (v : gV) : Prop := p_X12_write_20    (vM v 559 12 ((v.1 559 12) + (1 : Int32)))
set_option maxHeartbeats 4000000 in
set_option maxRecDepth 100000 in
theorem w_X12_write_10 {E : gE} {d : Nat} {Q : gO → gS → Prop}   (hd : 0 ≤ d)  (v : gV) (hp : p_X12_write_10    v) (hQ : gqV Q (f_X12_write_10   v)) : gG E m_X12_write d Q 0 0 (rS v) 10 [(0, .ref (gX E + 559))] [] := by
  refine g_aload_n 0 dX12_write_10 rfl ?_
  refine g_dup dX12_write_11 rfl ?_
  refine r_get (.int (v.1 559 12)) f_X12_48_X12 rfl (by decide : kd 559 = (0, 9)) (show 559 < 572 by decide) dX12_write_12 (fun _ => rfl) ?_
  refine g_iconst dX12_write_15 (1 : Int32) (by decide) ?_
  refine g_iadd dX12_write_16 ?_
  refine r_put pf_X12_48_X12 rfl (by decide : kd 559 = (0, 9)) (by decide) (by decide) rfl (show 559 < 572 by decide) rfl rfl dX12_write_17 ?_
  refine g_lv (lv' := []) [] rfl ?_
  exact w_X12_write_20  hd     (vM v 559 12 ((v.1 559 12) + (1 : Int32))) hp hQ
def f_X12_write_0  (x1 : Int32) (v : gV) : gV := f_X12_write_10   (vM v 566 (v.1 559 12).toNatClampNeg x1)
def p_X12_write_0  (x1 : Int32) (v : gV) : Prop := (vp_in (v.1 559 12) 80) ∧ (p_X12_write_10    (vM v 566 (v.1 559 12).toNatClampNeg x1))
set_option maxHeartbeats 4000000 in
set_option maxRecDepth 100000 in
theorem w_X12_write_0 {E : gE} {d : Nat} {Q : gO → gS → Prop}   (hd : 0 ≤ d) (x1 : Int32) (v : gV) (hp : p_X12_write_0   x1 v) (hQ : gqV Q (f_X12_write_0  x1 v)) : gG E m_X12_write d Q 0 0 (rS v) 0 [(0, .ref (gX E + 559)), (1, .int x1)] [] := by
  refine g_aload_n 0 dX12_write_0 rfl ?_
  refine r_get (.ref (gX E + 566)) f_X12_45_X12 rfl (by decide : kd 559 = (0, 9)) (show 559 < 572 by decide) dX12_write_1 (fun _ => rfl) ?_
  refine g_aload_n 0 dX12_write_4 rfl ?_
  refine r_get (.int (v.1 559 12)) f_X12_48_X12 rfl (by decide : kd 559 = (0, 9)) (show 559 < 572 by decide) dX12_write_5 (fun _ => rfl) ?_
  refine g_iload_n 1 dX12_write_8 rfl ?_
  obtain ⟨h1, hp⟩ := hp
  refine r_iast (by decide : kd 566 = (1, 80)) (show 566 < 572 by decide) h1 dX12_write_9 ?_
  refine g_lv (lv' := [(0, .ref (gX E + 559))]) [0] rfl ?_
  exact w_X12_write_10  hd     (vM v 566 (v.1 559 12).toNatClampNeg x1) hp hQ
def f_X12_write  (x1 : Int32) (v : gV) : gV := f_X12_write_0 x1 v
def p_X12_write  (x1 : Int32) (v : gV) : Prop := p_X12_write_0 x1 v
theorem c_X12_write {E : gE} {d : Nat}   (hd : 0 ≤ d) (x1 : Int32) (v : gV) (hp : p_X12_write x1 v) : CT E m_X12_write d 0 0 [.ref (gX E + 559), .int x1] (rS v) (Cq (.inl none) (f_X12_write x1 v)) := CT.of ok_X12_write rfl (Nat.le_of_ble_eq_true rfl) (w_X12_write_0  hd x1 v hp ⟨rfl, rfl⟩)
def f_X12_writeNumber_35  (K18 : Int32 → Int32 → gV → gV)  (x1 : Int32) (x2 : Int32) (v : gV) : gV := K18 x1 (x2 / (10 : Int32)) v
def p_X12_writeNumber_35  (K18 : Int32 → Int32 → gV → gV)  (PK18 : Int32 → Int32 → gV → Prop)  (x1 : Int32) (x2 : Int32) (v : gV) : Prop := PK18 x1 (x2 / (10 : Int32)) v
set_option maxHeartbeats 4000000 in
set_option maxRecDepth 100000 in
theorem w_X12_writeNumber_35 {E : gE} {d : Nat} {Q : gO → gS → Prop}   (hd : 1 ≤ d) (K18 : Int32 → Int32 → gV → gV)  (PK18 : Int32 → Int32 → gV → Prop)  (hK18 : ∀ (x1 : Int32) (x2 : Int32) (v : gV), PK18 x1 x2 v → gqV Q (K18 x1 x2 v) → gG E m_X12_writeNumber d Q 0 0 (rS v) 18 [(0, .ref (gX E + 559)), (1, .int x1), (2, .int x2)] [])  (x1 : Int32) (x2 : Int32) (v : gV) (hp : p_X12_writeNumber_35 K18 PK18 x1 x2 v) (hQ : gqV Q (f_X12_writeNumber_35 K18 x1 x2 v)) : gG E m_X12_writeNumber d Q 0 0 (rS v) 35 [(0, .ref (gX E + 559)), (1, .int x1), (2, .int x2)] [] := by
  refine g_iload_n 2 dX12_writeNumber_35 rfl ?_
  refine g_bipush dX12_writeNumber_36 (10 : Int32) (by decide) ?_
  refine g_idiv dX12_writeNumber_38 (by decide) ?_
  refine g_istore_n [(2, .int (x2 / (10 : Int32))), (0, .ref (gX E + 559)), (1, .int x1)] dX12_writeNumber_39 rfl (by decide) rfl ?_
  refine g_goto 18 dX12_writeNumber_40 (by decide) ?_
  refine g_lv (lv' := [(0, .ref (gX E + 559)), (1, .int x1), (2, .int (x2 / (10 : Int32)))]) [1, 2, 0] rfl ?_
  exact hK18 x1 (x2 / (10 : Int32)) v hp hQ
def f_X12_writeNumber_18  : Nat → Int32 → Int32 → gV → gV
  | 0, _, _, v => v
  | n + 1, x1, x2, v => if x2 ≤ 0 then v else (f_X12_writeNumber_35 (fun x1 x2 v => f_X12_writeNumber_18  n x1 x2 v) x1 x2 (f_X12_write ((48 : Int32) + ((x1 / x2) - (x1 / x2) / (10 : Int32) * (10 : Int32))) v))
def p_X12_writeNumber_18  : Nat → Int32 → Int32 → gV → Prop
  | 0, _, _, _ => False
  | n + 1, x1, x2, v => ((x2 ≤ 0) → (True)) ∧ (¬ (x2 ≤ 0) → ((¬ x2 = 0) ∧ ((p_X12_write ((48 : Int32) + ((x1 / x2) - (x1 / x2) / (10 : Int32) * (10 : Int32))) v) ∧ (p_X12_writeNumber_35 (fun x1 x2 v => f_X12_writeNumber_18  n x1 x2 v) (fun x1 x2 v => p_X12_writeNumber_18   n x1 x2 v) x1 x2 (f_X12_write ((48 : Int32) + ((x1 / x2) - (x1 / x2) / (10 : Int32) * (10 : Int32))) v)))))
set_option maxHeartbeats 4000000 in
set_option maxRecDepth 100000 in
theorem w_X12_writeNumber_18 {E : gE} {d : Nat} {Q : gO → gS → Prop}   (hd : 1 ≤ d) : ∀ (n : Nat) (x1 : Int32) (x2 : Int32) (v : gV), p_X12_writeNumber_18   n x1 x2 v → gqV Q (f_X12_writeNumber_18  n x1 x2 v) → gG E m_X12_writeNumber d Q 0 0 (rS v) 18 [(0, .ref (gX E + 559)), (1, .int x1), (2, .int x2)] [] := by
  intro n
  induction n with
  | zero => intro x1 x2 v hp; exact hp.elim
  | succ n ih =>
    intro x1 x2 v hp hQ
    refine g_iload_n 2 dX12_writeNumber_18 rfl ?_
    refine g_if_le 43 dX12_writeNumber_19 (by decide) (fun h3 => ?_) (fun h3 => ?_)
    · have hQ := qp (P := gqV Q) h3 hQ
      have hp := hp.1 h3
      exact g_vret rfl dX12_writeNumber_43 hQ
    · have hQ := qn (P := gqV Q) h3 hQ
      have hp := hp.2 h3
      refine g_aload_n 0 dX12_writeNumber_22 rfl ?_
      refine g_bipush dX12_writeNumber_23 (48 : Int32) (by decide) ?_
      refine g_iload_n 1 dX12_writeNumber_25 rfl ?_
      refine g_iload_n 2 dX12_writeNumber_26 rfl ?_
      obtain ⟨h4, hp⟩ := hp
      refine g_idiv dX12_writeNumber_27 h4 ?_
      refine g_bipush dX12_writeNumber_28 (10 : Int32) (by decide) ?_
      refine g_irem dX12_writeNumber_30 (by decide) ?_
      refine g_iadd dX12_writeNumber_31 ?_
      obtain ⟨h5, hp⟩ := hp
      refine g_callV (rest := []) s_X12_280_X12 rfl (c_X12_write (E := E) (d := d - 1)   (by omega) ((48 : Int32) + ((x1 / x2) - (x1 / x2) / (10 : Int32) * (10 : Int32))) v h5) (by decide : kd 559 = (0, 9)) (show 559 < 572 by decide) rfl rfl (Nat.le_of_ble_eq_true rfl) (by omega) (by decide) (by decide) dX12_writeNumber_32 (adN ?_) axN
      exact w_X12_writeNumber_35  hd (fun x1 x2 v => f_X12_writeNumber_18  n x1 x2 v) (fun x1 x2 v => p_X12_writeNumber_18   n x1 x2 v) ih x1 x2 (f_X12_write ((48 : Int32) + ((x1 / x2) - (x1 / x2) / (10 : Int32) * (10 : Int32))) v) hp hQ
def f_X12_writeNumber_2  : Nat → Int32 → Int32 → gV → gV
  | 0, _, _, v => v
  | n + 1, x1, x2, v => if (x1 / x2) ≤ (9 : Int32) then (f_X12_writeNumber_18  5000 x1 x2 v) else (f_X12_writeNumber_2  n x1 (x2 * (10 : Int32)) v)
def p_X12_writeNumber_2  : Nat → Int32 → Int32 → gV → Prop
  | 0, _, _, _ => False
  | n + 1, x1, x2, v => (¬ x2 = 0) ∧ ((((x1 / x2) ≤ (9 : Int32)) → (p_X12_writeNumber_18   5000 x1 x2 v)) ∧ (¬ ((x1 / x2) ≤ (9 : Int32)) → (p_X12_writeNumber_2   n x1 (x2 * (10 : Int32)) v)))
set_option maxHeartbeats 4000000 in
set_option maxRecDepth 100000 in
theorem w_X12_writeNumber_2 {E : gE} {d : Nat} {Q : gO → gS → Prop}   (hd : 1 ≤ d) : ∀ (n : Nat) (x1 : Int32) (x2 : Int32) (v : gV), p_X12_writeNumber_2   n x1 x2 v → gqV Q (f_X12_writeNumber_2  n x1 x2 v) → gG E m_X12_writeNumber d Q 0 0 (rS v) 2 [(0, .ref (gX E + 559)), (1, .int x1), (2, .int x2)] [] := by
  intro n
  induction n with
  | zero => intro x1 x2 v hp; exact hp.elim
  | succ n ih =>
    intro x1 x2 v hp hQ
    refine g_iload_n 1 dX12_writeNumber_2 rfl ?_
    refine g_iload_n 2 dX12_writeNumber_3 rfl ?_
    obtain ⟨h1, hp⟩ := hp
    refine g_idiv dX12_writeNumber_4 h1 ?_
    refine g_bipush dX12_writeNumber_5 (9 : Int32) (by decide) ?_
    refine g_icmp_le 18 dX12_writeNumber_7 (by decide) (fun h2 => ?_) (fun h2 => ?_)
    · have hQ := qp (P := gqV Q) h2 hQ
      have hp := hp.1 h2
      exact w_X12_writeNumber_18  hd    5000 x1 x2 v hp hQ
    · have hQ := qn (P := gqV Q) h2 hQ
      have hp := hp.2 h2
      refine g_iload_n 2 dX12_writeNumber_10 rfl ?_
      refine g_bipush dX12_writeNumber_11 (10 : Int32) (by decide) ?_
      refine g_imul dX12_writeNumber_13 ?_
      refine g_istore_n [(2, .int (x2 * (10 : Int32))), (0, .ref (gX E + 559)), (1, .int x1)] dX12_writeNumber_14 rfl (by decide) rfl ?_
      refine g_goto 2 dX12_writeNumber_15 (by decide) ?_
      refine g_lv (lv' := [(0, .ref (gX E + 559)), (1, .int x1), (2, .int (x2 * (10 : Int32)))]) [1, 2, 0] rfl ?_
      exact ih x1 (x2 * (10 : Int32)) v hp hQ
def f_X12_writeNumber_0  (x1 : Int32) (v : gV) : gV := f_X12_writeNumber_2  5000 x1 (1 : Int32) v
def p_X12_writeNumber_0  (x1 : Int32) (v : gV) : Prop := p_X12_writeNumber_2   5000 x1 (1 : Int32) v
set_option maxHeartbeats 4000000 in
set_option maxRecDepth 100000 in
theorem w_X12_writeNumber_0 {E : gE} {d : Nat} {Q : gO → gS → Prop}   (hd : 1 ≤ d) (x1 : Int32) (v : gV) (hp : p_X12_writeNumber_0   x1 v) (hQ : gqV Q (f_X12_writeNumber_0  x1 v)) : gG E m_X12_writeNumber d Q 0 0 (rS v) 0 [(0, .ref (gX E + 559)), (1, .int x1)] [] := by
  refine g_iconst dX12_writeNumber_0 (1 : Int32) (by decide) ?_
  refine g_istore_n [(2, .int ((1 : Int32))), (0, .ref (gX E + 559)), (1, .int x1)] dX12_writeNumber_1 rfl (by decide) rfl ?_
  refine g_lv (lv' := [(0, .ref (gX E + 559)), (1, .int x1), (2, .int ((1 : Int32)))]) [1, 2, 0] rfl ?_
  exact w_X12_writeNumber_2  hd    5000 x1 (1 : Int32) v hp hQ
def f_X12_writeNumber  (x1 : Int32) (v : gV) : gV := f_X12_writeNumber_0 x1 v
def p_X12_writeNumber  (x1 : Int32) (v : gV) : Prop := p_X12_writeNumber_0 x1 v
theorem c_X12_writeNumber {E : gE} {d : Nat}   (hd : 1 ≤ d) (x1 : Int32) (v : gV) (hp : p_X12_writeNumber x1 v) : CT E m_X12_writeNumber d 0 0 [.ref (gX E + 559), .int x1] (rS v) (Cq (.inl none) (f_X12_writeNumber x1 v)) := CT.of ok_X12_writeNumber rfl (Nat.le_of_ble_eq_true rfl) (w_X12_writeNumber_0  hd x1 v hp ⟨rfl, rfl⟩)
def f_X12_writePolicy_106   (v : gV) : Int32 × gV := (v.1 559 12, v)
def p_X12_writePolicy_106   (v : gV) : Prop := True
set_option maxHeartbeats 4000000 in
set_option maxRecDepth 100000 in
theorem w_X12_writePolicy_106 {E : gE} {d : Nat} {Q : gO → gS → Prop}   (hd : 2 ≤ d)  (v : gV) (hp : p_X12_writePolicy_106    v) (hQ : gqIV Q (f_X12_writePolicy_106   v)) : gG E m_X12_writePolicy d Q 0 0 (rS v) 106 [(0, .ref (gX E + 559))] [] := by
  refine g_aload_n 0 dX12_writePolicy_106 rfl ?_
  refine r_get (.int (v.1 559 12)) f_X12_48_X12 rfl (by decide : kd 559 = (0, 9)) (show 559 < 572 by decide) dX12_writePolicy_107 (fun _ => rfl) ?_
  exact g_iret rfl dX12_writePolicy_110 hQ
def f_X12_writePolicy_92  (x2 : Int32) (v : gV) : Int32 × gV := if (f_X12_isActiveAt x2 v) = 0 then (f_X12_writePolicy_106   (f_X12_write (33 : Int32) v)) else (f_X12_writePolicy_106   v)
def p_X12_writePolicy_92  (x2 : Int32) (v : gV) : Prop := (p_X12_isActiveAt x2 v) ∧ ((((f_X12_isActiveAt x2 v) = 0) → ((p_X12_write (33 : Int32) v) ∧ (p_X12_writePolicy_106    (f_X12_write (33 : Int32) v)))) ∧ (¬ ((f_X12_isActiveAt x2 v) = 0) → (p_X12_writePolicy_106    v)))
set_option maxHeartbeats 4000000 in
set_option maxRecDepth 100000 in
theorem w_X12_writePolicy_92 {E : gE} {d : Nat} {Q : gO → gS → Prop}   (hd : 2 ≤ d) (x2 : Int32) (v : gV) (hp : p_X12_writePolicy_92   x2 v) (hQ : gqIV Q (f_X12_writePolicy_92  x2 v)) : gG E m_X12_writePolicy d Q 0 0 (rS v) 92 [(0, .ref (gX E + 559)), (2, .int x2)] [] := by
  refine g_aload_n 0 dX12_writePolicy_92 rfl ?_
  refine g_iload_n 1 dX12_writePolicy_93 rfl ?_
  obtain ⟨h17, hp⟩ := hp
  refine g_callV (rest := []) s_X12_114_X12 rfl (c_X12_isActiveAt (E := E) (d := d - 1)   (by omega) x2 v h17) (by decide : kd 559 = (0, 9)) (show 559 < 572 by decide) rfl rfl (Nat.le_of_ble_eq_true rfl) (by omega) (by decide) (by decide) dX12_writePolicy_94 (adV ?_) axN
  refine g_if_ne 106 dX12_writePolicy_97 (by decide) (fun h18 => ?_) (fun h18 => ?_)
  · have hQ := qn (P := gqIV Q) h18 hQ
    have hp := hp.2 h18
    refine g_lv (lv' := [(0, .ref (gX E + 559))]) [0] rfl ?_
    exact w_X12_writePolicy_106  hd     v hp hQ
  · have hQ := qp (P := gqIV Q) h18 hQ
    have hp := hp.1 h18
    refine g_aload_n 0 dX12_writePolicy_100 rfl ?_
    refine g_bipush dX12_writePolicy_101 (33 : Int32) (by decide) ?_
    obtain ⟨h19, hp⟩ := hp
    refine g_callV (rest := []) s_X12_280_X12 rfl (c_X12_write (E := E) (d := d - 1)   (by omega) (33 : Int32) v h19) (by decide : kd 559 = (0, 9)) (show 559 < 572 by decide) rfl rfl (Nat.le_of_ble_eq_true rfl) (by omega) (by decide) (by decide) dX12_writePolicy_103 (adN ?_) axN
    refine g_lv (lv' := [(0, .ref (gX E + 559))]) [0] rfl ?_
    exact w_X12_writePolicy_106  hd     (f_X12_write (33 : Int32) v) hp hQ
def f_X12_writePolicy_82  (x2 : Int32) (v : gV) : Int32 × gV := f_X12_writePolicy_92  x2 (f_X12_writeNumber (f_X12_p x2 (4 : Int32) v) v)
def p_X12_writePolicy_82  (x2 : Int32) (v : gV) : Prop := (p_X12_p x2 (4 : Int32) v) ∧ ((p_X12_writeNumber (f_X12_p x2 (4 : Int32) v) v) ∧ (p_X12_writePolicy_92   x2 (f_X12_writeNumber (f_X12_p x2 (4 : Int32) v) v)))
set_option maxHeartbeats 4000000 in
set_option maxRecDepth 100000 in
theorem w_X12_writePolicy_82 {E : gE} {d : Nat} {Q : gO → gS → Prop}   (hd : 2 ≤ d) (x2 : Int32) (v : gV) (hp : p_X12_writePolicy_82   x2 v) (hQ : gqIV Q (f_X12_writePolicy_82  x2 v)) : gG E m_X12_writePolicy d Q 0 0 (rS v) 82 [(0, .ref (gX E + 559)), (2, .int x2)] [] := by
  refine g_aload_n 0 dX12_writePolicy_82 rfl ?_
  refine g_aload_n 0 dX12_writePolicy_83 rfl ?_
  refine g_iload_n 1 dX12_writePolicy_84 rfl ?_
  refine g_iconst dX12_writePolicy_85 (4 : Int32) (by decide) ?_
  obtain ⟨h15, hp⟩ := hp
  refine g_callV (rest := [.ref (gX E + 559)]) s_X12_79_X12 rfl (c_X12_p (E := E) (d := d - 1)   (by omega) x2 (4 : Int32) v h15) (by decide : kd 559 = (0, 9)) (show 559 < 572 by decide) rfl rfl (Nat.le_of_ble_eq_true rfl) (by omega) (by decide) (by decide) dX12_writePolicy_86 (adV ?_) axN
  obtain ⟨h16, hp⟩ := hp
  refine g_callV (rest := []) s_X12_284_X12 rfl (c_X12_writeNumber (E := E) (d := d - 1)   (by omega) (f_X12_p x2 (4 : Int32) v) v h16) (by decide : kd 559 = (0, 9)) (show 559 < 572 by decide) rfl rfl (Nat.le_of_ble_eq_true rfl) (by omega) (by decide) (by decide) dX12_writePolicy_89 (adN ?_) axN
  exact w_X12_writePolicy_92  hd    x2 (f_X12_writeNumber (f_X12_p x2 (4 : Int32) v) v) hp hQ
def f_X12_writePolicy_76  (x2 : Int32) (v : gV) : Int32 × gV := f_X12_writePolicy_82  x2 (f_X12_write (64 : Int32) v)
def p_X12_writePolicy_76  (x2 : Int32) (v : gV) : Prop := (p_X12_write (64 : Int32) v) ∧ (p_X12_writePolicy_82   x2 (f_X12_write (64 : Int32) v))
set_option maxHeartbeats 4000000 in
set_option maxRecDepth 100000 in
theorem w_X12_writePolicy_76 {E : gE} {d : Nat} {Q : gO → gS → Prop}   (hd : 2 ≤ d) (x2 : Int32) (v : gV) (hp : p_X12_writePolicy_76   x2 v) (hQ : gqIV Q (f_X12_writePolicy_76  x2 v)) : gG E m_X12_writePolicy d Q 0 0 (rS v) 76 [(0, .ref (gX E + 559)), (2, .int x2)] [] := by
  refine g_aload_n 0 dX12_writePolicy_76 rfl ?_
  refine g_bipush dX12_writePolicy_77 (64 : Int32) (by decide) ?_
  obtain ⟨h14, hp⟩ := hp
  refine g_callV (rest := []) s_X12_280_X12 rfl (c_X12_write (E := E) (d := d - 1)   (by omega) (64 : Int32) v h14) (by decide : kd 559 = (0, 9)) (show 559 < 572 by decide) rfl rfl (Nat.le_of_ble_eq_true rfl) (by omega) (by decide) (by decide) dX12_writePolicy_79 (adN ?_) axN
  exact w_X12_writePolicy_82  hd    x2 (f_X12_write (64 : Int32) v) hp hQ
def f_X12_writePolicy_66  (x2 : Int32) (v : gV) : Int32 × gV := f_X12_writePolicy_76  x2 (f_X12_writeNumber (f_X12_p x2 (2 : Int32) v) v)
def p_X12_writePolicy_66  (x2 : Int32) (v : gV) : Prop := (p_X12_p x2 (2 : Int32) v) ∧ ((p_X12_writeNumber (f_X12_p x2 (2 : Int32) v) v) ∧ (p_X12_writePolicy_76   x2 (f_X12_writeNumber (f_X12_p x2 (2 : Int32) v) v)))
set_option maxHeartbeats 4000000 in
set_option maxRecDepth 100000 in
theorem w_X12_writePolicy_66 {E : gE} {d : Nat} {Q : gO → gS → Prop}   (hd : 2 ≤ d) (x2 : Int32) (v : gV) (hp : p_X12_writePolicy_66   x2 v) (hQ : gqIV Q (f_X12_writePolicy_66  x2 v)) : gG E m_X12_writePolicy d Q 0 0 (rS v) 66 [(0, .ref (gX E + 559)), (2, .int x2)] [] := by
  refine g_aload_n 0 dX12_writePolicy_66 rfl ?_
  refine g_aload_n 0 dX12_writePolicy_67 rfl ?_
  refine g_iload_n 1 dX12_writePolicy_68 rfl ?_
  refine g_iconst dX12_writePolicy_69 (2 : Int32) (by decide) ?_
  obtain ⟨h12, hp⟩ := hp
  refine g_callV (rest := [.ref (gX E + 559)]) s_X12_79_X12 rfl (c_X12_p (E := E) (d := d - 1)   (by omega) x2 (2 : Int32) v h12) (by decide : kd 559 = (0, 9)) (show 559 < 572 by decide) rfl rfl (Nat.le_of_ble_eq_true rfl) (by omega) (by decide) (by decide) dX12_writePolicy_70 (adV ?_) axN
  obtain ⟨h13, hp⟩ := hp
  refine g_callV (rest := []) s_X12_284_X12 rfl (c_X12_writeNumber (E := E) (d := d - 1)   (by omega) (f_X12_p x2 (2 : Int32) v) v h13) (by decide : kd 559 = (0, 9)) (show 559 < 572 by decide) rfl rfl (Nat.le_of_ble_eq_true rfl) (by omega) (by decide) (by decide) dX12_writePolicy_73 (adN ?_) axN
  exact w_X12_writePolicy_76  hd    x2 (f_X12_writeNumber (f_X12_p x2 (2 : Int32) v) v) hp hQ
def f_X12_writePolicy_60  (x2 : Int32) (v : gV) : Int32 × gV := f_X12_writePolicy_66  x2 (f_X12_write (120 : Int32) v)
def p_X12_writePolicy_60  (x2 : Int32) (v : gV) : Prop := (p_X12_write (120 : Int32) v) ∧ (p_X12_writePolicy_66   x2 (f_X12_write (120 : Int32) v))
set_option maxHeartbeats 4000000 in
set_option maxRecDepth 100000 in
theorem w_X12_writePolicy_60 {E : gE} {d : Nat} {Q : gO → gS → Prop}   (hd : 2 ≤ d) (x2 : Int32) (v : gV) (hp : p_X12_writePolicy_60   x2 v) (hQ : gqIV Q (f_X12_writePolicy_60  x2 v)) : gG E m_X12_writePolicy d Q 0 0 (rS v) 60 [(0, .ref (gX E + 559)), (2, .int x2)] [] := by
  refine g_aload_n 0 dX12_writePolicy_60 rfl ?_
  refine g_bipush dX12_writePolicy_61 (120 : Int32) (by decide) ?_
  obtain ⟨h11, hp⟩ := hp
  refine g_callV (rest := []) s_X12_280_X12 rfl (c_X12_write (E := E) (d := d - 1)   (by omega) (120 : Int32) v h11) (by decide : kd 559 = (0, 9)) (show 559 < 572 by decide) rfl rfl (Nat.le_of_ble_eq_true rfl) (by omega) (by decide) (by decide) dX12_writePolicy_63 (adN ?_) axN
  exact w_X12_writePolicy_66  hd    x2 (f_X12_write (120 : Int32) v) hp hQ
def f_X12_writePolicy_50  (x2 : Int32) (v : gV) : Int32 × gV := f_X12_writePolicy_60  x2 (f_X12_writeNumber (f_X12_p x2 (1 : Int32) v) v)
def p_X12_writePolicy_50  (x2 : Int32) (v : gV) : Prop := (p_X12_p x2 (1 : Int32) v) ∧ ((p_X12_writeNumber (f_X12_p x2 (1 : Int32) v) v) ∧ (p_X12_writePolicy_60   x2 (f_X12_writeNumber (f_X12_p x2 (1 : Int32) v) v)))
set_option maxHeartbeats 4000000 in
set_option maxRecDepth 100000 in
theorem w_X12_writePolicy_50 {E : gE} {d : Nat} {Q : gO → gS → Prop}   (hd : 2 ≤ d) (x2 : Int32) (v : gV) (hp : p_X12_writePolicy_50   x2 v) (hQ : gqIV Q (f_X12_writePolicy_50  x2 v)) : gG E m_X12_writePolicy d Q 0 0 (rS v) 50 [(0, .ref (gX E + 559)), (2, .int x2)] [] := by
  refine g_aload_n 0 dX12_writePolicy_50 rfl ?_
  refine g_aload_n 0 dX12_writePolicy_51 rfl ?_
  refine g_iload_n 1 dX12_writePolicy_52 rfl ?_
  refine g_iconst dX12_writePolicy_53 (1 : Int32) (by decide) ?_
  obtain ⟨h9, hp⟩ := hp
  refine g_callV (rest := [.ref (gX E + 559)]) s_X12_79_X12 rfl (c_X12_p (E := E) (d := d - 1)   (by omega) x2 (1 : Int32) v h9) (by decide : kd 559 = (0, 9)) (show 559 < 572 by decide) rfl rfl (Nat.le_of_ble_eq_true rfl) (by omega) (by decide) (by decide) dX12_writePolicy_54 (adV ?_) axN
  obtain ⟨h10, hp⟩ := hp
  refine g_callV (rest := []) s_X12_284_X12 rfl (c_X12_writeNumber (E := E) (d := d - 1)   (by omega) (f_X12_p x2 (1 : Int32) v) v h10) (by decide : kd 559 = (0, 9)) (show 559 < 572 by decide) rfl rfl (Nat.le_of_ble_eq_true rfl) (by omega) (by decide) (by decide) dX12_writePolicy_57 (adN ?_) axN
  exact w_X12_writePolicy_60  hd    x2 (f_X12_writeNumber (f_X12_p x2 (1 : Int32) v) v) hp hQ
def f_X12_writePolicy_44  (x2 : Int32) (v : gV) : Int32 × gV := f_X12_writePolicy_50  x2 (f_X12_write (58 : Int32) v)
def p_X12_writePolicy_44  (x2 : Int32) (v : gV) : Prop := (p_X12_write (58 : Int32) v) ∧ (p_X12_writePolicy_50   x2 (f_X12_write (58 : Int32) v))
set_option maxHeartbeats 4000000 in
set_option maxRecDepth 100000 in
theorem w_X12_writePolicy_44 {E : gE} {d : Nat} {Q : gO → gS → Prop}   (hd : 2 ≤ d) (x2 : Int32) (v : gV) (hp : p_X12_writePolicy_44   x2 v) (hQ : gqIV Q (f_X12_writePolicy_44  x2 v)) : gG E m_X12_writePolicy d Q 0 0 (rS v) 44 [(0, .ref (gX E + 559)), (2, .int x2)] [] := by
  refine g_aload_n 0 dX12_writePolicy_44 rfl ?_
  refine g_bipush dX12_writePolicy_45 (58 : Int32) (by decide) ?_
  obtain ⟨h8, hp⟩ := hp
  refine g_callV (rest := []) s_X12_280_X12 rfl (c_X12_write (E := E) (d := d - 1)   (by omega) (58 : Int32) v h8) (by decide : kd 559 = (0, 9)) (show 559 < 572 by decide) rfl rfl (Nat.le_of_ble_eq_true rfl) (by omega) (by decide) (by decide) dX12_writePolicy_47 (adN ?_) axN
  exact w_X12_writePolicy_50  hd    x2 (f_X12_write (58 : Int32) v) hp hQ
def f_X12_writePolicy_39  (x1 : Int32) (x2 : Int32) (v : gV) : Int32 × gV := f_X12_writePolicy_44  x2 (f_X12_writeNumber x1 v)
def p_X12_writePolicy_39  (x1 : Int32) (x2 : Int32) (v : gV) : Prop := (p_X12_writeNumber x1 v) ∧ (p_X12_writePolicy_44   x2 (f_X12_writeNumber x1 v))
set_option maxHeartbeats 4000000 in
set_option maxRecDepth 100000 in
theorem w_X12_writePolicy_39 {E : gE} {d : Nat} {Q : gO → gS → Prop}   (hd : 2 ≤ d) (x1 : Int32) (x2 : Int32) (v : gV) (hp : p_X12_writePolicy_39   x1 x2 v) (hQ : gqIV Q (f_X12_writePolicy_39  x1 x2 v)) : gG E m_X12_writePolicy d Q 0 0 (rS v) 39 [(0, .ref (gX E + 559)), (1, .int x1), (2, .int x2)] [] := by
  refine g_aload_n 0 dX12_writePolicy_39 rfl ?_
  refine g_iload_n 1 dX12_writePolicy_40 rfl ?_
  obtain ⟨h7, hp⟩ := hp
  refine g_callV (rest := []) s_X12_284_X12 rfl (c_X12_writeNumber (E := E) (d := d - 1)   (by omega) x1 v h7) (by decide : kd 559 = (0, 9)) (show 559 < 572 by decide) rfl rfl (Nat.le_of_ble_eq_true rfl) (by omega) (by decide) (by decide) dX12_writePolicy_41 (adN ?_) axN
  refine g_lv (lv' := [(0, .ref (gX E + 559)), (2, .int x2)]) [0, 2] rfl ?_
  exact w_X12_writePolicy_44  hd    x2 (f_X12_writeNumber x1 v) hp hQ
def f_X12_writePolicy_33  (x1 : Int32) (x2 : Int32) (v : gV) : Int32 × gV := f_X12_writePolicy_39  x1 x2 (f_X12_write (35 : Int32) v)
def p_X12_writePolicy_33  (x1 : Int32) (x2 : Int32) (v : gV) : Prop := (p_X12_write (35 : Int32) v) ∧ (p_X12_writePolicy_39   x1 x2 (f_X12_write (35 : Int32) v))
set_option maxHeartbeats 4000000 in
set_option maxRecDepth 100000 in
theorem w_X12_writePolicy_33 {E : gE} {d : Nat} {Q : gO → gS → Prop}   (hd : 2 ≤ d) (x1 : Int32) (x2 : Int32) (v : gV) (hp : p_X12_writePolicy_33   x1 x2 v) (hQ : gqIV Q (f_X12_writePolicy_33  x1 x2 v)) : gG E m_X12_writePolicy d Q 0 0 (rS v) 33 [(0, .ref (gX E + 559)), (1, .int x1), (2, .int x2)] [] := by
  refine g_aload_n 0 dX12_writePolicy_33 rfl ?_
  refine g_bipush dX12_writePolicy_34 (35 : Int32) (by decide) ?_
  obtain ⟨h6, hp⟩ := hp
  refine g_callV (rest := []) s_X12_280_X12 rfl (c_X12_write (E := E) (d := d - 1)   (by omega) (35 : Int32) v h6) (by decide : kd 559 = (0, 9)) (show 559 < 572 by decide) rfl rfl (Nat.le_of_ble_eq_true rfl) (by omega) (by decide) (by decide) dX12_writePolicy_36 (adN ?_) axN
  exact w_X12_writePolicy_39  hd    x1 x2 (f_X12_write (35 : Int32) v) hp hQ
def f_X12_writePolicy_17  (x1 : Int32) (s0 : Int32) (v : gV) : Int32 × gV := if s0 ≤ 0 then (f_X12_writePolicy_33  x1 (f_X12_policy x1 v) (vM v 559 12 (0 : Int32))) else (((0 : Int32), v))
def p_X12_writePolicy_17  (x1 : Int32) (s0 : Int32) (v : gV) : Prop := ((s0 ≤ 0) → ((p_X12_policy x1 v) ∧ (p_X12_writePolicy_33   x1 (f_X12_policy x1 v) (vM v 559 12 (0 : Int32))))) ∧ (¬ (s0 ≤ 0) → (True))
set_option maxHeartbeats 4000000 in
set_option maxRecDepth 100000 in
theorem w_X12_writePolicy_17 {E : gE} {d : Nat} {Q : gO → gS → Prop}   (hd : 2 ≤ d) (x1 : Int32) (s0 : Int32) (v : gV) (hp : p_X12_writePolicy_17   x1 s0 v) (hQ : gqIV Q (f_X12_writePolicy_17  x1 s0 v)) : gG E m_X12_writePolicy d Q 0 0 (rS v) 17 [(0, .ref (gX E + 559)), (1, .int x1)] [.int s0] := by
  refine g_if_le 22 dX12_writePolicy_17 (by decide) (fun h4 => ?_) (fun h4 => ?_)
  · have hQ := qp (P := gqIV Q) h4 hQ
    have hp := hp.1 h4
    refine g_aload_n 0 dX12_writePolicy_22 rfl ?_
    refine g_iload_n 1 dX12_writePolicy_23 rfl ?_
    obtain ⟨h5, hp⟩ := hp
    refine g_callV (rest := []) s_X12_107_X12 rfl (c_X12_policy (E := E) (d := d - 1)   (by omega) x1 v h5) (by decide : kd 559 = (0, 9)) (show 559 < 572 by decide) rfl rfl (Nat.le_of_ble_eq_true rfl) (by omega) (by decide) (by decide) dX12_writePolicy_24 (adV ?_) axN
    refine g_istore_n [(2, .int ((f_X12_policy x1 v))), (0, .ref (gX E + 559)), (1, .int x1)] dX12_writePolicy_27 rfl (by decide) rfl ?_
    refine g_aload_n 1 dX12_writePolicy_28 rfl ?_
    refine g_iconst dX12_writePolicy_29 (0 : Int32) (by decide) ?_
    refine r_put pf_X12_48_X12 rfl (by decide : kd 559 = (0, 9)) (by decide) (by decide) rfl (show 559 < 572 by decide) rfl rfl dX12_writePolicy_30 ?_
    refine g_lv (lv' := [(0, .ref (gX E + 559)), (1, .int x1), (2, .int ((f_X12_policy x1 v)))]) [1, 2, 0] rfl ?_
    exact w_X12_writePolicy_33  hd    x1 (f_X12_policy x1 v) (vM v 559 12 (0 : Int32)) hp hQ
  · have hQ := qn (P := gqIV Q) h4 hQ
    have hp := hp.2 h4
    refine g_iconst dX12_writePolicy_20 (0 : Int32) (by decide) ?_
    exact g_iret rfl dX12_writePolicy_21 hQ
def f_X12_writePolicy_14  (x1 : Int32) (s0 : Int32) (v : gV) : Int32 × gV := f_X12_writePolicy_17  x1 ((f_X12_checked s0 v).1) (f_X12_checked s0 v).2
def p_X12_writePolicy_14  (x1 : Int32) (s0 : Int32) (v : gV) : Prop := (p_X12_checked s0 v) ∧ (p_X12_writePolicy_17   x1 ((f_X12_checked s0 v).1) (f_X12_checked s0 v).2)
set_option maxHeartbeats 4000000 in
set_option maxRecDepth 100000 in
theorem w_X12_writePolicy_14 {E : gE} {d : Nat} {Q : gO → gS → Prop}   (hd : 2 ≤ d) (x1 : Int32) (s0 : Int32) (v : gV) (hp : p_X12_writePolicy_14   x1 s0 v) (hQ : gqIV Q (f_X12_writePolicy_14  x1 s0 v)) : gG E m_X12_writePolicy d Q 0 0 (rS v) 14 [(0, .ref (gX E + 559)), (1, .int x1)] [.int s0, .ref (gX E + 559)] := by
  obtain ⟨h3, hp⟩ := hp
  refine g_callV (rest := []) s_X12_213_X12 rfl (c_X12_checked (E := E) (d := d - 1)   (by omega) s0 v h3) (by decide : kd 559 = (0, 9)) (show 559 < 572 by decide) rfl rfl (Nat.le_of_ble_eq_true rfl) (by omega) (by decide) (by decide) dX12_writePolicy_14 (adV ?_) axN
  exact w_X12_writePolicy_17  hd    x1 ((f_X12_checked s0 v).1) (f_X12_checked s0 v).2 hp hQ
def f_X12_writePolicy_0  (x1 : Int32) (v : gV) : Int32 × gV := if (f_X12_policy x1 v) < 0 then (f_X12_writePolicy_14  x1 (0 : Int32) v) else (f_X12_writePolicy_14  x1 (1 : Int32) v)
def p_X12_writePolicy_0  (x1 : Int32) (v : gV) : Prop := (p_X12_policy x1 v) ∧ ((((f_X12_policy x1 v) < 0) → (p_X12_writePolicy_14   x1 (0 : Int32) v)) ∧ (¬ ((f_X12_policy x1 v) < 0) → (p_X12_writePolicy_14   x1 (1 : Int32) v)))
set_option maxHeartbeats 4000000 in
set_option maxRecDepth 100000 in
theorem w_X12_writePolicy_0 {E : gE} {d : Nat} {Q : gO → gS → Prop}   (hd : 2 ≤ d) (x1 : Int32) (v : gV) (hp : p_X12_writePolicy_0   x1 v) (hQ : gqIV Q (f_X12_writePolicy_0  x1 v)) : gG E m_X12_writePolicy d Q 0 0 (rS v) 0 [(0, .ref (gX E + 559)), (1, .int x1)] [] := by
  refine g_aload_n 0 dX12_writePolicy_0 rfl ?_
  refine g_aload_n 0 dX12_writePolicy_1 rfl ?_
  refine g_iload_n 1 dX12_writePolicy_2 rfl ?_
  obtain ⟨h1, hp⟩ := hp
  refine g_callV (rest := [.ref (gX E + 559)]) s_X12_107_X12 rfl (c_X12_policy (E := E) (d := d - 1)   (by omega) x1 v h1) (by decide : kd 559 = (0, 9)) (show 559 < 572 by decide) rfl rfl (Nat.le_of_ble_eq_true rfl) (by omega) (by decide) (by decide) dX12_writePolicy_3 (adV ?_) axN
  refine g_if_lt 13 dX12_writePolicy_6 (by decide) (fun h2 => ?_) (fun h2 => ?_)
  · have hQ := qp (P := gqIV Q) h2 hQ
    have hp := hp.1 h2
    refine g_iconst dX12_writePolicy_13 (0 : Int32) (by decide) ?_
    exact w_X12_writePolicy_14  hd    x1 (0 : Int32) v hp hQ
  · have hQ := qn (P := gqIV Q) h2 hQ
    have hp := hp.2 h2
    refine g_iconst dX12_writePolicy_9 (1 : Int32) (by decide) ?_
    refine g_goto 14 dX12_writePolicy_10 (by decide) ?_
    exact w_X12_writePolicy_14  hd    x1 (1 : Int32) v hp hQ
def f_X12_writePolicy  (x1 : Int32) (v : gV) : Int32 × gV := f_X12_writePolicy_0 x1 v
def p_X12_writePolicy  (x1 : Int32) (v : gV) : Prop := p_X12_writePolicy_0 x1 v
theorem c_X12_writePolicy {E : gE} {d : Nat}   (hd : 2 ≤ d) (x1 : Int32) (v : gV) (hp : p_X12_writePolicy x1 v) : CT E m_X12_writePolicy d 0 0 [.ref (gX E + 559), .int x1] (rS v) (Cq (.inl (some (.int ((f_X12_writePolicy x1 v).1)))) (f_X12_writePolicy x1 v).2) := CT.of ok_X12_writePolicy rfl (Nat.le_of_ble_eq_true rfl) (w_X12_writePolicy_0  hd x1 v hp ⟨rfl, rfl⟩)
def f_X12_writeClaim_96   (v : gV) : Int32 × gV := (v.1 559 12, v)
def p_X12_writeClaim_96   (v : gV) : Prop := True
set_option maxHeartbeats 4000000 in
set_option maxRecDepth 100000 in
theorem w_X12_writeClaim_96 {E : gE} {d : Nat} {Q : gO → gS → Prop}   (hd : 2 ≤ d)  (v : gV) (hp : p_X12_writeClaim_96    v) (hQ : gqIV Q (f_X12_writeClaim_96   v)) : gG E m_X12_writeClaim d Q 0 0 (rS v) 96 [(0, .ref (gX E + 559))] [] := by
  refine g_aload_n 0 dX12_writeClaim_96 rfl ?_
  refine r_get (.int (v.1 559 12)) f_X12_48_X12 rfl (by decide : kd 559 = (0, 9)) (show 559 < 572 by decide) dX12_writeClaim_97 (fun _ => rfl) ?_
  exact g_iret rfl dX12_writeClaim_100 hQ
def f_X12_writeClaim_80  (x2 : Int32) (v : gV) : Int32 × gV := f_X12_writeClaim_96   (f_X12_writeNumber ((f_X12_c x2 (3 : Int32) v) - (f_X12_borneOf x2 v)) v)
def p_X12_writeClaim_80  (x2 : Int32) (v : gV) : Prop := (p_X12_c x2 (3 : Int32) v) ∧ ((p_X12_borneOf x2 v) ∧ ((p_X12_writeNumber ((f_X12_c x2 (3 : Int32) v) - (f_X12_borneOf x2 v)) v) ∧ (p_X12_writeClaim_96    (f_X12_writeNumber ((f_X12_c x2 (3 : Int32) v) - (f_X12_borneOf x2 v)) v))))
set_option maxHeartbeats 4000000 in
set_option maxRecDepth 100000 in
theorem w_X12_writeClaim_80 {E : gE} {d : Nat} {Q : gO → gS → Prop}   (hd : 2 ≤ d) (x2 : Int32) (v : gV) (hp : p_X12_writeClaim_80   x2 v) (hQ : gqIV Q (f_X12_writeClaim_80  x2 v)) : gG E m_X12_writeClaim d Q 0 0 (rS v) 80 [(0, .ref (gX E + 559)), (2, .int x2)] [] := by
  refine g_aload_n 0 dX12_writeClaim_80 rfl ?_
  refine g_aload_n 0 dX12_writeClaim_81 rfl ?_
  refine g_iload_n 1 dX12_writeClaim_82 rfl ?_
  refine g_iconst dX12_writeClaim_83 (3 : Int32) (by decide) ?_
  obtain ⟨h15, hp⟩ := hp
  refine g_callV (rest := [.ref (gX E + 559)]) s_X12_104_X12 rfl (c_X12_c (E := E) (d := d - 1)   (by omega) x2 (3 : Int32) v h15) (by decide : kd 559 = (0, 9)) (show 559 < 572 by decide) rfl rfl (Nat.le_of_ble_eq_true rfl) (by omega) (by decide) (by decide) dX12_writeClaim_84 (adV ?_) axN
  refine g_aload_n 0 dX12_writeClaim_87 rfl ?_
  refine g_iload_n 1 dX12_writeClaim_88 rfl ?_
  obtain ⟨h16, hp⟩ := hp
  refine g_callV (rest := [.int ((f_X12_c x2 (3 : Int32) v)), .ref (gX E + 559)]) s_X12_146_X12 rfl (c_X12_borneOf (E := E) (d := d - 1)   (by omega) x2 v h16) (by decide : kd 559 = (0, 9)) (show 559 < 572 by decide) rfl rfl (Nat.le_of_ble_eq_true rfl) (by omega) (by decide) (by decide) dX12_writeClaim_89 (adV ?_) axN
  refine g_isub dX12_writeClaim_92 ?_
  obtain ⟨h17, hp⟩ := hp
  refine g_callV (rest := []) s_X12_284_X12 rfl (c_X12_writeNumber (E := E) (d := d - 1)   (by omega) ((f_X12_c x2 (3 : Int32) v) - (f_X12_borneOf x2 v)) v h17) (by decide : kd 559 = (0, 9)) (show 559 < 572 by decide) rfl rfl (Nat.le_of_ble_eq_true rfl) (by omega) (by decide) (by decide) dX12_writeClaim_93 (adN ?_) axN
  refine g_lv (lv' := [(0, .ref (gX E + 559))]) [0] rfl ?_
  exact w_X12_writeClaim_96  hd     (f_X12_writeNumber ((f_X12_c x2 (3 : Int32) v) - (f_X12_borneOf x2 v)) v) hp hQ
def f_X12_writeClaim_74  (x2 : Int32) (v : gV) : Int32 × gV := f_X12_writeClaim_80  x2 (f_X12_write (61 : Int32) v)
def p_X12_writeClaim_74  (x2 : Int32) (v : gV) : Prop := (p_X12_write (61 : Int32) v) ∧ (p_X12_writeClaim_80   x2 (f_X12_write (61 : Int32) v))
set_option maxHeartbeats 4000000 in
set_option maxRecDepth 100000 in
theorem w_X12_writeClaim_74 {E : gE} {d : Nat} {Q : gO → gS → Prop}   (hd : 2 ≤ d) (x2 : Int32) (v : gV) (hp : p_X12_writeClaim_74   x2 v) (hQ : gqIV Q (f_X12_writeClaim_74  x2 v)) : gG E m_X12_writeClaim d Q 0 0 (rS v) 74 [(0, .ref (gX E + 559)), (2, .int x2)] [] := by
  refine g_aload_n 0 dX12_writeClaim_74 rfl ?_
  refine g_bipush dX12_writeClaim_75 (61 : Int32) (by decide) ?_
  obtain ⟨h14, hp⟩ := hp
  refine g_callV (rest := []) s_X12_280_X12 rfl (c_X12_write (E := E) (d := d - 1)   (by omega) (61 : Int32) v h14) (by decide : kd 559 = (0, 9)) (show 559 < 572 by decide) rfl rfl (Nat.le_of_ble_eq_true rfl) (by omega) (by decide) (by decide) dX12_writeClaim_77 (adN ?_) axN
  exact w_X12_writeClaim_80  hd    x2 (f_X12_write (61 : Int32) v) hp hQ
def f_X12_writeClaim_64  (x2 : Int32) (v : gV) : Int32 × gV := f_X12_writeClaim_74  x2 (f_X12_writeNumber (f_X12_c x2 (4 : Int32) v) v)
def p_X12_writeClaim_64  (x2 : Int32) (v : gV) : Prop := (p_X12_c x2 (4 : Int32) v) ∧ ((p_X12_writeNumber (f_X12_c x2 (4 : Int32) v) v) ∧ (p_X12_writeClaim_74   x2 (f_X12_writeNumber (f_X12_c x2 (4 : Int32) v) v)))
set_option maxHeartbeats 4000000 in
set_option maxRecDepth 100000 in
theorem w_X12_writeClaim_64 {E : gE} {d : Nat} {Q : gO → gS → Prop}   (hd : 2 ≤ d) (x2 : Int32) (v : gV) (hp : p_X12_writeClaim_64   x2 v) (hQ : gqIV Q (f_X12_writeClaim_64  x2 v)) : gG E m_X12_writeClaim d Q 0 0 (rS v) 64 [(0, .ref (gX E + 559)), (2, .int x2)] [] := by
  refine g_aload_n 0 dX12_writeClaim_64 rfl ?_
  refine g_aload_n 0 dX12_writeClaim_65 rfl ?_
  refine g_iload_n 1 dX12_writeClaim_66 rfl ?_
  refine g_iconst dX12_writeClaim_67 (4 : Int32) (by decide) ?_
  obtain ⟨h12, hp⟩ := hp
  refine g_callV (rest := [.ref (gX E + 559)]) s_X12_104_X12 rfl (c_X12_c (E := E) (d := d - 1)   (by omega) x2 (4 : Int32) v h12) (by decide : kd 559 = (0, 9)) (show 559 < 572 by decide) rfl rfl (Nat.le_of_ble_eq_true rfl) (by omega) (by decide) (by decide) dX12_writeClaim_68 (adV ?_) axN
  obtain ⟨h13, hp⟩ := hp
  refine g_callV (rest := []) s_X12_284_X12 rfl (c_X12_writeNumber (E := E) (d := d - 1)   (by omega) (f_X12_c x2 (4 : Int32) v) v h13) (by decide : kd 559 = (0, 9)) (show 559 < 572 by decide) rfl rfl (Nat.le_of_ble_eq_true rfl) (by omega) (by decide) (by decide) dX12_writeClaim_71 (adN ?_) axN
  exact w_X12_writeClaim_74  hd    x2 (f_X12_writeNumber (f_X12_c x2 (4 : Int32) v) v) hp hQ
def f_X12_writeClaim_58  (x2 : Int32) (v : gV) : Int32 × gV := f_X12_writeClaim_64  x2 (f_X12_write (47 : Int32) v)
def p_X12_writeClaim_58  (x2 : Int32) (v : gV) : Prop := (p_X12_write (47 : Int32) v) ∧ (p_X12_writeClaim_64   x2 (f_X12_write (47 : Int32) v))
set_option maxHeartbeats 4000000 in
set_option maxRecDepth 100000 in
theorem w_X12_writeClaim_58 {E : gE} {d : Nat} {Q : gO → gS → Prop}   (hd : 2 ≤ d) (x2 : Int32) (v : gV) (hp : p_X12_writeClaim_58   x2 v) (hQ : gqIV Q (f_X12_writeClaim_58  x2 v)) : gG E m_X12_writeClaim d Q 0 0 (rS v) 58 [(0, .ref (gX E + 559)), (2, .int x2)] [] := by
  refine g_aload_n 0 dX12_writeClaim_58 rfl ?_
  refine g_bipush dX12_writeClaim_59 (47 : Int32) (by decide) ?_
  obtain ⟨h11, hp⟩ := hp
  refine g_callV (rest := []) s_X12_280_X12 rfl (c_X12_write (E := E) (d := d - 1)   (by omega) (47 : Int32) v h11) (by decide : kd 559 = (0, 9)) (show 559 < 572 by decide) rfl rfl (Nat.le_of_ble_eq_true rfl) (by omega) (by decide) (by decide) dX12_writeClaim_61 (adN ?_) axN
  exact w_X12_writeClaim_64  hd    x2 (f_X12_write (47 : Int32) v) hp hQ
def f_X12_writeClaim_48  (x2 : Int32) (v : gV) : Int32 × gV := f_X12_writeClaim_58  x2 (f_X12_writeNumber (f_X12_c x2 (3 : Int32) v) v)
def p_X12_writeClaim_48  (x2 : Int32) (v : gV) : Prop := (p_X12_c x2 (3 : Int32) v) ∧ ((p_X12_writeNumber (f_X12_c x2 (3 : Int32) v) v) ∧ (p_X12_writeClaim_58   x2 (f_X12_writeNumber (f_X12_c x2 (3 : Int32) v) v)))
set_option maxHeartbeats 4000000 in
set_option maxRecDepth 100000 in
theorem w_X12_writeClaim_48 {E : gE} {d : Nat} {Q : gO → gS → Prop}   (hd : 2 ≤ d) (x2 : Int32) (v : gV) (hp : p_X12_writeClaim_48   x2 v) (hQ : gqIV Q (f_X12_writeClaim_48  x2 v)) : gG E m_X12_writeClaim d Q 0 0 (rS v) 48 [(0, .ref (gX E + 559)), (2, .int x2)] [] := by
  refine g_aload_n 0 dX12_writeClaim_48 rfl ?_
  refine g_aload_n 0 dX12_writeClaim_49 rfl ?_
  refine g_iload_n 1 dX12_writeClaim_50 rfl ?_
  refine g_iconst dX12_writeClaim_51 (3 : Int32) (by decide) ?_
  obtain ⟨h9, hp⟩ := hp
  refine g_callV (rest := [.ref (gX E + 559)]) s_X12_104_X12 rfl (c_X12_c (E := E) (d := d - 1)   (by omega) x2 (3 : Int32) v h9) (by decide : kd 559 = (0, 9)) (show 559 < 572 by decide) rfl rfl (Nat.le_of_ble_eq_true rfl) (by omega) (by decide) (by decide) dX12_writeClaim_52 (adV ?_) axN
  obtain ⟨h10, hp⟩ := hp
  refine g_callV (rest := []) s_X12_284_X12 rfl (c_X12_writeNumber (E := E) (d := d - 1)   (by omega) (f_X12_c x2 (3 : Int32) v) v h10) (by decide : kd 559 = (0, 9)) (show 559 < 572 by decide) rfl rfl (Nat.le_of_ble_eq_true rfl) (by omega) (by decide) (by decide) dX12_writeClaim_55 (adN ?_) axN
  exact w_X12_writeClaim_58  hd    x2 (f_X12_writeNumber (f_X12_c x2 (3 : Int32) v) v) hp hQ
def f_X12_writeClaim_38  (x2 : Int32) (v : gV) : Int32 × gV := f_X12_writeClaim_48  x2 (f_X12_write (f_X12_c x2 (2 : Int32) v) v)
def p_X12_writeClaim_38  (x2 : Int32) (v : gV) : Prop := (p_X12_c x2 (2 : Int32) v) ∧ ((p_X12_write (f_X12_c x2 (2 : Int32) v) v) ∧ (p_X12_writeClaim_48   x2 (f_X12_write (f_X12_c x2 (2 : Int32) v) v)))
set_option maxHeartbeats 4000000 in
set_option maxRecDepth 100000 in
theorem w_X12_writeClaim_38 {E : gE} {d : Nat} {Q : gO → gS → Prop}   (hd : 2 ≤ d) (x2 : Int32) (v : gV) (hp : p_X12_writeClaim_38   x2 v) (hQ : gqIV Q (f_X12_writeClaim_38  x2 v)) : gG E m_X12_writeClaim d Q 0 0 (rS v) 38 [(0, .ref (gX E + 559)), (2, .int x2)] [] := by
  refine g_aload_n 0 dX12_writeClaim_38 rfl ?_
  refine g_aload_n 0 dX12_writeClaim_39 rfl ?_
  refine g_iload_n 1 dX12_writeClaim_40 rfl ?_
  refine g_iconst dX12_writeClaim_41 (2 : Int32) (by decide) ?_
  obtain ⟨h7, hp⟩ := hp
  refine g_callV (rest := [.ref (gX E + 559)]) s_X12_104_X12 rfl (c_X12_c (E := E) (d := d - 1)   (by omega) x2 (2 : Int32) v h7) (by decide : kd 559 = (0, 9)) (show 559 < 572 by decide) rfl rfl (Nat.le_of_ble_eq_true rfl) (by omega) (by decide) (by decide) dX12_writeClaim_42 (adV ?_) axN
  obtain ⟨h8, hp⟩ := hp
  refine g_callV (rest := []) s_X12_280_X12 rfl (c_X12_write (E := E) (d := d - 1)   (by omega) (f_X12_c x2 (2 : Int32) v) v h8) (by decide : kd 559 = (0, 9)) (show 559 < 572 by decide) rfl rfl (Nat.le_of_ble_eq_true rfl) (by omega) (by decide) (by decide) dX12_writeClaim_45 (adN ?_) axN
  exact w_X12_writeClaim_48  hd    x2 (f_X12_write (f_X12_c x2 (2 : Int32) v) v) hp hQ
def f_X12_writeClaim_33  (x1 : Int32) (x2 : Int32) (v : gV) : Int32 × gV := f_X12_writeClaim_38  x2 (f_X12_writeNumber x1 v)
def p_X12_writeClaim_33  (x1 : Int32) (x2 : Int32) (v : gV) : Prop := (p_X12_writeNumber x1 v) ∧ (p_X12_writeClaim_38   x2 (f_X12_writeNumber x1 v))
set_option maxHeartbeats 4000000 in
set_option maxRecDepth 100000 in
theorem w_X12_writeClaim_33 {E : gE} {d : Nat} {Q : gO → gS → Prop}   (hd : 2 ≤ d) (x1 : Int32) (x2 : Int32) (v : gV) (hp : p_X12_writeClaim_33   x1 x2 v) (hQ : gqIV Q (f_X12_writeClaim_33  x1 x2 v)) : gG E m_X12_writeClaim d Q 0 0 (rS v) 33 [(0, .ref (gX E + 559)), (1, .int x1), (2, .int x2)] [] := by
  refine g_aload_n 0 dX12_writeClaim_33 rfl ?_
  refine g_iload_n 1 dX12_writeClaim_34 rfl ?_
  obtain ⟨h6, hp⟩ := hp
  refine g_callV (rest := []) s_X12_284_X12 rfl (c_X12_writeNumber (E := E) (d := d - 1)   (by omega) x1 v h6) (by decide : kd 559 = (0, 9)) (show 559 < 572 by decide) rfl rfl (Nat.le_of_ble_eq_true rfl) (by omega) (by decide) (by decide) dX12_writeClaim_35 (adN ?_) axN
  refine g_lv (lv' := [(0, .ref (gX E + 559)), (2, .int x2)]) [0, 2] rfl ?_
  exact w_X12_writeClaim_38  hd    x2 (f_X12_writeNumber x1 v) hp hQ
def f_X12_writeClaim_17  (x1 : Int32) (s0 : Int32) (v : gV) : Int32 × gV := if s0 ≤ 0 then (f_X12_writeClaim_33  x1 (f_X12_claim x1 v) (vM v 559 12 (0 : Int32))) else (((0 : Int32), v))
def p_X12_writeClaim_17  (x1 : Int32) (s0 : Int32) (v : gV) : Prop := ((s0 ≤ 0) → ((p_X12_claim x1 v) ∧ (p_X12_writeClaim_33   x1 (f_X12_claim x1 v) (vM v 559 12 (0 : Int32))))) ∧ (¬ (s0 ≤ 0) → (True))
set_option maxHeartbeats 4000000 in
set_option maxRecDepth 100000 in
theorem w_X12_writeClaim_17 {E : gE} {d : Nat} {Q : gO → gS → Prop}   (hd : 2 ≤ d) (x1 : Int32) (s0 : Int32) (v : gV) (hp : p_X12_writeClaim_17   x1 s0 v) (hQ : gqIV Q (f_X12_writeClaim_17  x1 s0 v)) : gG E m_X12_writeClaim d Q 0 0 (rS v) 17 [(0, .ref (gX E + 559)), (1, .int x1)] [.int s0] := by
  refine g_if_le 22 dX12_writeClaim_17 (by decide) (fun h4 => ?_) (fun h4 => ?_)
  · have hQ := qp (P := gqIV Q) h4 hQ
    have hp := hp.1 h4
    refine g_aload_n 0 dX12_writeClaim_22 rfl ?_
    refine g_iload_n 1 dX12_writeClaim_23 rfl ?_
    obtain ⟨h5, hp⟩ := hp
    refine g_callV (rest := []) s_X12_167_X12 rfl (c_X12_claim (E := E) (d := d - 1)   (by omega) x1 v h5) (by decide : kd 559 = (0, 9)) (show 559 < 572 by decide) rfl rfl (Nat.le_of_ble_eq_true rfl) (by omega) (by decide) (by decide) dX12_writeClaim_24 (adV ?_) axN
    refine g_istore_n [(2, .int ((f_X12_claim x1 v))), (0, .ref (gX E + 559)), (1, .int x1)] dX12_writeClaim_27 rfl (by decide) rfl ?_
    refine g_aload_n 1 dX12_writeClaim_28 rfl ?_
    refine g_iconst dX12_writeClaim_29 (0 : Int32) (by decide) ?_
    refine r_put pf_X12_48_X12 rfl (by decide : kd 559 = (0, 9)) (by decide) (by decide) rfl (show 559 < 572 by decide) rfl rfl dX12_writeClaim_30 ?_
    refine g_lv (lv' := [(0, .ref (gX E + 559)), (1, .int x1), (2, .int ((f_X12_claim x1 v)))]) [1, 2, 0] rfl ?_
    exact w_X12_writeClaim_33  hd    x1 (f_X12_claim x1 v) (vM v 559 12 (0 : Int32)) hp hQ
  · have hQ := qn (P := gqIV Q) h4 hQ
    have hp := hp.2 h4
    refine g_iconst dX12_writeClaim_20 (0 : Int32) (by decide) ?_
    exact g_iret rfl dX12_writeClaim_21 hQ
def f_X12_writeClaim_14  (x1 : Int32) (s0 : Int32) (v : gV) : Int32 × gV := f_X12_writeClaim_17  x1 ((f_X12_checked s0 v).1) (f_X12_checked s0 v).2
def p_X12_writeClaim_14  (x1 : Int32) (s0 : Int32) (v : gV) : Prop := (p_X12_checked s0 v) ∧ (p_X12_writeClaim_17   x1 ((f_X12_checked s0 v).1) (f_X12_checked s0 v).2)
set_option maxHeartbeats 4000000 in
set_option maxRecDepth 100000 in
theorem w_X12_writeClaim_14 {E : gE} {d : Nat} {Q : gO → gS → Prop}   (hd : 2 ≤ d) (x1 : Int32) (s0 : Int32) (v : gV) (hp : p_X12_writeClaim_14   x1 s0 v) (hQ : gqIV Q (f_X12_writeClaim_14  x1 s0 v)) : gG E m_X12_writeClaim d Q 0 0 (rS v) 14 [(0, .ref (gX E + 559)), (1, .int x1)] [.int s0, .ref (gX E + 559)] := by
  obtain ⟨h3, hp⟩ := hp
  refine g_callV (rest := []) s_X12_213_X12 rfl (c_X12_checked (E := E) (d := d - 1)   (by omega) s0 v h3) (by decide : kd 559 = (0, 9)) (show 559 < 572 by decide) rfl rfl (Nat.le_of_ble_eq_true rfl) (by omega) (by decide) (by decide) dX12_writeClaim_14 (adV ?_) axN
  exact w_X12_writeClaim_17  hd    x1 ((f_X12_checked s0 v).1) (f_X12_checked s0 v).2 hp hQ
def f_X12_writeClaim_0  (x1 : Int32) (v : gV) : Int32 × gV := if (f_X12_claim x1 v) < 0 then (f_X12_writeClaim_14  x1 (0 : Int32) v) else (f_X12_writeClaim_14  x1 (1 : Int32) v)
def p_X12_writeClaim_0  (x1 : Int32) (v : gV) : Prop := (p_X12_claim x1 v) ∧ ((((f_X12_claim x1 v) < 0) → (p_X12_writeClaim_14   x1 (0 : Int32) v)) ∧ (¬ ((f_X12_claim x1 v) < 0) → (p_X12_writeClaim_14   x1 (1 : Int32) v)))
set_option maxHeartbeats 4000000 in
set_option maxRecDepth 100000 in
theorem w_X12_writeClaim_0 {E : gE} {d : Nat} {Q : gO → gS → Prop}   (hd : 2 ≤ d) (x1 : Int32) (v : gV) (hp : p_X12_writeClaim_0   x1 v) (hQ : gqIV Q (f_X12_writeClaim_0  x1 v)) : gG E m_X12_writeClaim d Q 0 0 (rS v) 0 [(0, .ref (gX E + 559)), (1, .int x1)] [] := by
  refine g_aload_n 0 dX12_writeClaim_0 rfl ?_
  refine g_aload_n 0 dX12_writeClaim_1 rfl ?_
  refine g_iload_n 1 dX12_writeClaim_2 rfl ?_
  obtain ⟨h1, hp⟩ := hp
  refine g_callV (rest := [.ref (gX E + 559)]) s_X12_167_X12 rfl (c_X12_claim (E := E) (d := d - 1)   (by omega) x1 v h1) (by decide : kd 559 = (0, 9)) (show 559 < 572 by decide) rfl rfl (Nat.le_of_ble_eq_true rfl) (by omega) (by decide) (by decide) dX12_writeClaim_3 (adV ?_) axN
  refine g_if_lt 13 dX12_writeClaim_6 (by decide) (fun h2 => ?_) (fun h2 => ?_)
  · have hQ := qp (P := gqIV Q) h2 hQ
    have hp := hp.1 h2
    refine g_iconst dX12_writeClaim_13 (0 : Int32) (by decide) ?_
    exact w_X12_writeClaim_14  hd    x1 (0 : Int32) v hp hQ
  · have hQ := qn (P := gqIV Q) h2 hQ
    have hp := hp.2 h2
    refine g_iconst dX12_writeClaim_9 (1 : Int32) (by decide) ?_
    refine g_goto 14 dX12_writeClaim_10 (by decide) ?_
    exact w_X12_writeClaim_14  hd    x1 (1 : Int32) v hp hQ
def f_X12_writeClaim  (x1 : Int32) (v : gV) : Int32 × gV := f_X12_writeClaim_0 x1 v
def p_X12_writeClaim  (x1 : Int32) (v : gV) : Prop := p_X12_writeClaim_0 x1 v
theorem c_X12_writeClaim {E : gE} {d : Nat}   (hd : 2 ≤ d) (x1 : Int32) (v : gV) (hp : p_X12_writeClaim x1 v) : CT E m_X12_writeClaim d 0 0 [.ref (gX E + 559), .int x1] (rS v) (Cq (.inl (some (.int ((f_X12_writeClaim x1 v).1)))) (f_X12_writeClaim x1 v).2) := CT.of ok_X12_writeClaim rfl (Nat.le_of_ble_eq_true rfl) (w_X12_writeClaim_0  hd x1 v hp ⟨rfl, rfl⟩)
def f_X12_outputAt_30  (s0 : Int32) (v : gV) : Int32 × gV := (s0, v)
def p_X12_outputAt_30  (s0 : Int32) (v : gV) : Prop := (narrow .char (.int s0) = .int s0) ∧ (True)
set_option maxHeartbeats 4000000 in
set_option maxRecDepth 100000 in
theorem w_X12_outputAt_30 {E : gE} {d : Nat} {Q : gO → gS → Prop}   (hd : 1 ≤ d) (s0 : Int32) (v : gV) (hp : p_X12_outputAt_30   s0 v) (hQ : gqIV Q (f_X12_outputAt_30  s0 v)) : gG E m_X12_outputAt d Q 0 0 (rS v) 30 [] [.int s0] := by
  obtain ⟨h5, hp⟩ := hp
  exact g_zret rfl h5 dX12_outputAt_30 hQ
def f_X12_outputAt_15  (x1 : Int32) (s0 : Int32) (v : gV) : Int32 × gV := if s0 ≤ 0 then (f_X12_outputAt_30  (((v.1 566 x1.toNatClampNeg).toUInt32 % 65536).toInt32) v) else (f_X12_outputAt_30  (32 : Int32) v)
def p_X12_outputAt_15  (x1 : Int32) (s0 : Int32) (v : gV) : Prop := ((s0 ≤ 0) → ((vp_in x1 80) ∧ (p_X12_outputAt_30   (((v.1 566 x1.toNatClampNeg).toUInt32 % 65536).toInt32) v))) ∧ (¬ (s0 ≤ 0) → (p_X12_outputAt_30   (32 : Int32) v))
set_option maxHeartbeats 4000000 in
set_option maxRecDepth 100000 in
theorem w_X12_outputAt_15 {E : gE} {d : Nat} {Q : gO → gS → Prop}   (hd : 1 ≤ d) (x1 : Int32) (s0 : Int32) (v : gV) (hp : p_X12_outputAt_15   x1 s0 v) (hQ : gqIV Q (f_X12_outputAt_15  x1 s0 v)) : gG E m_X12_outputAt d Q 0 0 (rS v) 15 [(0, .ref (gX E + 559)), (1, .int x1)] [.int s0] := by
  refine g_if_le 23 dX12_outputAt_15 (by decide) (fun h3 => ?_) (fun h3 => ?_)
  · have hQ := qp (P := gqIV Q) h3 hQ
    have hp := hp.1 h3
    refine g_aload_n 0 dX12_outputAt_23 rfl ?_
    refine r_get (.ref (gX E + 566)) f_X12_45_X12 rfl (by decide : kd 559 = (0, 9)) (show 559 < 572 by decide) dX12_outputAt_24 (fun _ => rfl) ?_
    refine g_iload_n 1 dX12_outputAt_27 rfl ?_
    obtain ⟨h4, hp⟩ := hp
    refine g_iald (by decide : kd 566 = (1, 80)) (show 566 < 572 by decide) h4 dX12_outputAt_28 ?_
    refine g_i2c dX12_outputAt_29 ?_
    refine g_lv (lv' := []) [] rfl ?_
    exact w_X12_outputAt_30  hd    (((v.1 566 x1.toNatClampNeg).toUInt32 % 65536).toInt32) v hp hQ
  · have hQ := qn (P := gqIV Q) h3 hQ
    have hp := hp.2 h3
    refine g_bipush dX12_outputAt_18 (32 : Int32) (by decide) ?_
    refine g_goto 30 dX12_outputAt_20 (by decide) ?_
    refine g_lv (lv' := []) [] rfl ?_
    exact w_X12_outputAt_30  hd    (32 : Int32) v hp hQ
def f_X12_outputAt_0  (x1 : Int32) (v : gV) : Int32 × gV := f_X12_outputAt_15  x1 ((f_X12_checked (f_X12_in x1 (0 : Int32) ((v.1 559 12) - (1 : Int32)) v) v).1) (f_X12_checked (f_X12_in x1 (0 : Int32) ((v.1 559 12) - (1 : Int32)) v) v).2
def p_X12_outputAt_0  (x1 : Int32) (v : gV) : Prop := (p_X12_in x1 (0 : Int32) ((v.1 559 12) - (1 : Int32)) v) ∧ ((p_X12_checked (f_X12_in x1 (0 : Int32) ((v.1 559 12) - (1 : Int32)) v) v) ∧ (p_X12_outputAt_15   x1 ((f_X12_checked (f_X12_in x1 (0 : Int32) ((v.1 559 12) - (1 : Int32)) v) v).1) (f_X12_checked (f_X12_in x1 (0 : Int32) ((v.1 559 12) - (1 : Int32)) v) v).2))
set_option maxHeartbeats 4000000 in
set_option maxRecDepth 100000 in
theorem w_X12_outputAt_0 {E : gE} {d : Nat} {Q : gO → gS → Prop}   (hd : 1 ≤ d) (x1 : Int32) (v : gV) (hp : p_X12_outputAt_0   x1 v) (hQ : gqIV Q (f_X12_outputAt_0  x1 v)) : gG E m_X12_outputAt d Q 0 0 (rS v) 0 [(0, .ref (gX E + 559)), (1, .int x1)] [] := by
  refine g_aload_n 0 dX12_outputAt_0 rfl ?_
  refine g_iload_n 1 dX12_outputAt_1 rfl ?_
  refine g_iconst dX12_outputAt_2 (0 : Int32) (by decide) ?_
  refine g_aload_n 0 dX12_outputAt_3 rfl ?_
  refine r_get (.int (v.1 559 12)) f_X12_48_X12 rfl (by decide : kd 559 = (0, 9)) (show 559 < 572 by decide) dX12_outputAt_4 (fun _ => rfl) ?_
  refine g_iconst dX12_outputAt_7 (1 : Int32) (by decide) ?_
  refine g_isub dX12_outputAt_8 ?_
  obtain ⟨h1, hp⟩ := hp
  refine g_callS (rest := [.ref (gX E + 559)]) s_X12_83 rfl (c_X12_in (E := E) (d := d - 1)   (by omega) x1 (0 : Int32) ((v.1 559 12) - (1 : Int32)) v h1) rfl rfl (Nat.le_of_ble_eq_true rfl) (by omega) (by decide) (by decide) dX12_outputAt_9 (adV ?_) axN
  obtain ⟨h2, hp⟩ := hp
  refine g_callV (rest := []) s_X12_213_X12 rfl (c_X12_checked (E := E) (d := d - 1)   (by omega) (f_X12_in x1 (0 : Int32) ((v.1 559 12) - (1 : Int32)) v) v h2) (by decide : kd 559 = (0, 9)) (show 559 < 572 by decide) rfl rfl (Nat.le_of_ble_eq_true rfl) (by omega) (by decide) (by decide) dX12_outputAt_12 (adV ?_) axN
  exact w_X12_outputAt_15  hd    x1 ((f_X12_checked (f_X12_in x1 (0 : Int32) ((v.1 559 12) - (1 : Int32)) v) v).1) (f_X12_checked (f_X12_in x1 (0 : Int32) ((v.1 559 12) - (1 : Int32)) v) v).2 hp hQ
def f_X12_outputAt  (x1 : Int32) (v : gV) : Int32 × gV := f_X12_outputAt_0 x1 v
def p_X12_outputAt  (x1 : Int32) (v : gV) : Prop := p_X12_outputAt_0 x1 v
theorem c_X12_outputAt {E : gE} {d : Nat}   (hd : 1 ≤ d) (x1 : Int32) (v : gV) (hp : p_X12_outputAt x1 v) : CT E m_X12_outputAt d 0 0 [.ref (gX E + 559), .int x1] (rS v) (Cq (.inl (some (.int ((f_X12_outputAt x1 v).1)))) (f_X12_outputAt x1 v).2) := CT.of ok_X12_outputAt rfl (Nat.le_of_ble_eq_true rfl) (w_X12_outputAt_0  hd x1 v hp ⟨rfl, rfl⟩)
def f_X12_type_62   (v : gV) : Int32 × gV := (v.1 559 16, v)
def p_X12_type_62   (v : gV) : Prop := True
set_option maxHeartbeats 4000000 in
set_option maxRecDepth 100000 in
theorem w_X12_type_62 {E : gE} {d : Nat} {Q : gO → gS → Prop}   (hd : 1 ≤ d)  (v : gV) (hp : p_X12_type_62    v) (hQ : gqIV Q (f_X12_type_62   v)) : gG E m_X12_type d Q 0 0 (rS v) 62 [(0, .ref (gX E + 559))] [] := by
  refine g_aload_n 0 dX12_type_62 rfl ?_
  refine r_get (.int (v.1 559 16)) f_X12_60_X12 rfl (by decide : kd 559 = (0, 9)) (show 559 < 572 by decide) dX12_type_63 (fun _ => rfl) ?_
  exact g_iret rfl dX12_type_66 hQ
def f_X12_type_52   (v : gV) : Int32 × gV := f_X12_type_62   (vM v 559 16 ((v.1 559 16) + (1 : Int32)))
def p_X12_type_52   (v : gV) : Prop := p_X12_type_62    (vM v 559 16 ((v.1 559 16) + (1 : Int32)))
set_option maxHeartbeats 4000000 in
set_option maxRecDepth 100000 in
theorem w_X12_type_52 {E : gE} {d : Nat} {Q : gO → gS → Prop}   (hd : 1 ≤ d)  (v : gV) (hp : p_X12_type_52    v) (hQ : gqIV Q (f_X12_type_52   v)) : gG E m_X12_type d Q 0 0 (rS v) 52 [(0, .ref (gX E + 559))] [] := by
  refine g_aload_n 0 dX12_type_52 rfl ?_
  refine g_dup dX12_type_53 rfl ?_
  refine r_get (.int (v.1 559 16)) f_X12_60_X12 rfl (by decide : kd 559 = (0, 9)) (show 559 < 572 by decide) dX12_type_54 (fun _ => rfl) ?_
  refine g_iconst dX12_type_57 (1 : Int32) (by decide) ?_
  refine g_iadd dX12_type_58 ?_
  refine r_put pf_X12_60_X12 rfl (by decide : kd 559 = (0, 9)) (by decide) (by decide) rfl (show 559 < 572 by decide) rfl rfl dX12_type_59 ?_
  exact w_X12_type_62  hd     (vM v 559 16 ((v.1 559 16) + (1 : Int32))) hp hQ
def f_X12_type_33  (x1 : Int32) (v : gV) : Int32 × gV := if (v.1 559 6) ≤ 0 then (f_X12_type_52   (vM v 567 (v.1 559 16).toNatClampNeg x1)) else (((0 : Int32), v))
def p_X12_type_33  (x1 : Int32) (v : gV) : Prop := (((v.1 559 6) ≤ 0) → ((vp_in (v.1 559 16) 60) ∧ (p_X12_type_52    (vM v 567 (v.1 559 16).toNatClampNeg x1)))) ∧ (¬ ((v.1 559 6) ≤ 0) → (True))
set_option maxHeartbeats 4000000 in
set_option maxRecDepth 100000 in
theorem w_X12_type_33 {E : gE} {d : Nat} {Q : gO → gS → Prop}   (hd : 1 ≤ d) (x1 : Int32) (v : gV) (hp : p_X12_type_33   x1 v) (hQ : gqIV Q (f_X12_type_33  x1 v)) : gG E m_X12_type d Q 0 0 (rS v) 33 [(0, .ref (gX E + 559)), (1, .int x1)] [] := by
  refine g_aload_n 0 dX12_type_33 rfl ?_
  refine r_get (.int (v.1 559 6)) f_X12_28_X12 rfl (by decide : kd 559 = (0, 9)) (show 559 < 572 by decide) dX12_type_34 (fun _ => rfl) ?_
  refine g_if_le 42 dX12_type_37 (by decide) (fun h4 => ?_) (fun h4 => ?_)
  · have hQ := qp (P := gqIV Q) h4 hQ
    have hp := hp.1 h4
    refine g_aload_n 0 dX12_type_42 rfl ?_
    refine r_get (.ref (gX E + 567)) f_X12_51_X12 rfl (by decide : kd 559 = (0, 9)) (show 559 < 572 by decide) dX12_type_43 (fun _ => rfl) ?_
    refine g_aload_n 0 dX12_type_46 rfl ?_
    refine r_get (.int (v.1 559 16)) f_X12_60_X12 rfl (by decide : kd 559 = (0, 9)) (show 559 < 572 by decide) dX12_type_47 (fun _ => rfl) ?_
    refine g_iload_n 1 dX12_type_50 rfl ?_
    obtain ⟨h5, hp⟩ := hp
    refine r_iast (by decide : kd 567 = (1, 60)) (show 567 < 572 by decide) h5 dX12_type_51 ?_
    refine g_lv (lv' := [(0, .ref (gX E + 559))]) [0] rfl ?_
    exact w_X12_type_52  hd     (vM v 567 (v.1 559 16).toNatClampNeg x1) hp hQ
  · have hQ := qn (P := gqIV Q) h4 hQ
    have hp := hp.2 h4
    refine g_iconst dX12_type_40 (0 : Int32) (by decide) ?_
    exact g_iret rfl dX12_type_41 hQ
def f_X12_type_30  (x1 : Int32) (s0 : Int32) (v : gV) : Int32 × gV := f_X12_type_33  x1 (vM v 559 6 s0)
def p_X12_type_30  (x1 : Int32) (s0 : Int32) (v : gV) : Prop := p_X12_type_33   x1 (vM v 559 6 s0)
set_option maxHeartbeats 4000000 in
set_option maxRecDepth 100000 in
theorem w_X12_type_30 {E : gE} {d : Nat} {Q : gO → gS → Prop}   (hd : 1 ≤ d) (x1 : Int32) (s0 : Int32) (v : gV) (hp : p_X12_type_30   x1 s0 v) (hQ : gqIV Q (f_X12_type_30  x1 s0 v)) : gG E m_X12_type d Q 0 0 (rS v) 30 [(0, .ref (gX E + 559)), (1, .int x1)] [.int s0, .ref (gX E + 559)] := by
  refine r_put pf_X12_28_X12 rfl (by decide : kd 559 = (0, 9)) (by decide) (by decide) rfl (show 559 < 572 by decide) rfl rfl dX12_type_30 ?_
  exact w_X12_type_33  hd    x1 (vM v 559 6 s0) hp hQ
def f_X12_type_0  (x1 : Int32) (v : gV) : Int32 × gV := if (f_X12_in x1 (32 : Int32) (126 : Int32) v) = 0 then (f_X12_type_30  x1 (1 : Int32) v) else (if (v.1 559 16) = (60 : Int32) then (f_X12_type_30  x1 (2 : Int32) v) else (f_X12_type_30  x1 (0 : Int32) v))
def p_X12_type_0  (x1 : Int32) (v : gV) : Prop := (p_X12_in x1 (32 : Int32) (126 : Int32) v) ∧ ((((f_X12_in x1 (32 : Int32) (126 : Int32) v) = 0) → (p_X12_type_30   x1 (1 : Int32) v)) ∧ (¬ ((f_X12_in x1 (32 : Int32) (126 : Int32) v) = 0) → ((((v.1 559 16) = (60 : Int32)) → (p_X12_type_30   x1 (2 : Int32) v)) ∧ (¬ ((v.1 559 16) = (60 : Int32)) → (p_X12_type_30   x1 (0 : Int32) v)))))
set_option maxHeartbeats 4000000 in
set_option maxRecDepth 100000 in
theorem w_X12_type_0 {E : gE} {d : Nat} {Q : gO → gS → Prop}   (hd : 1 ≤ d) (x1 : Int32) (v : gV) (hp : p_X12_type_0   x1 v) (hQ : gqIV Q (f_X12_type_0  x1 v)) : gG E m_X12_type d Q 0 0 (rS v) 0 [(0, .ref (gX E + 559)), (1, .int x1)] [] := by
  refine g_aload_n 0 dX12_type_0 rfl ?_
  refine g_iload_n 1 dX12_type_1 rfl ?_
  refine g_bipush dX12_type_2 (32 : Int32) (by decide) ?_
  refine g_bipush dX12_type_4 (126 : Int32) (by decide) ?_
  obtain ⟨h1, hp⟩ := hp
  refine g_callS (rest := [.ref (gX E + 559)]) s_X12_83 rfl (c_X12_in (E := E) (d := d - 1)   (by omega) x1 (32 : Int32) (126 : Int32) v h1) rfl rfl (Nat.le_of_ble_eq_true rfl) (by omega) (by decide) (by decide) dX12_type_6 (adV ?_) axN
  refine g_if_ne 16 dX12_type_9 (by decide) (fun h2 => ?_) (fun h2 => ?_)
  · have hQ := qn (P := gqIV Q) h2 hQ
    have hp := hp.2 h2
    refine g_aload_n 0 dX12_type_16 rfl ?_
    refine r_get (.int (v.1 559 16)) f_X12_60_X12 rfl (by decide : kd 559 = (0, 9)) (show 559 < 572 by decide) dX12_type_17 (fun _ => rfl) ?_
    refine g_bipush dX12_type_20 (60 : Int32) (by decide) ?_
    refine g_icmp_ne 29 dX12_type_22 (by decide) (fun h3 => ?_) (fun h3 => ?_)
    · have hQ := qn (P := gqIV Q) h3 hQ
      have hp := hp.2 h3
      refine g_iconst dX12_type_29 (0 : Int32) (by decide) ?_
      exact w_X12_type_30  hd    x1 (0 : Int32) v hp hQ
    · have hQ := qp (P := gqIV Q) h3 hQ
      have hp := hp.1 h3
      refine g_iconst dX12_type_25 (2 : Int32) (by decide) ?_
      refine g_goto 30 dX12_type_26 (by decide) ?_
      exact w_X12_type_30  hd    x1 (2 : Int32) v hp hQ
  · have hQ := qp (P := gqIV Q) h2 hQ
    have hp := hp.1 h2
    refine g_iconst dX12_type_12 (1 : Int32) (by decide) ?_
    refine g_goto 30 dX12_type_13 (by decide) ?_
    exact w_X12_type_30  hd    x1 (1 : Int32) v hp hQ
def f_X12_type  (x1 : Int32) (v : gV) : Int32 × gV := f_X12_type_0 x1 v
def p_X12_type  (x1 : Int32) (v : gV) : Prop := p_X12_type_0 x1 v
theorem c_X12_type {E : gE} {d : Nat}   (hd : 1 ≤ d) (x1 : Int32) (v : gV) (hp : p_X12_type x1 v) : CT E m_X12_type d 0 0 [.ref (gX E + 559), .int x1] (rS v) (Cq (.inl (some (.int ((f_X12_type x1 v).1)))) (f_X12_type x1 v).2) := CT.of ok_X12_type rfl (Nat.le_of_ble_eq_true rfl) (w_X12_type_0  hd x1 v hp ⟨rfl, rfl⟩)
def f_X12_mark_31  (s0 : Int32) (v : gV) : Int32 := s0
def p_X12_mark_31  (s0 : Int32) (v : gV) : Prop := True
set_option maxHeartbeats 4000000 in
set_option maxRecDepth 100000 in
theorem w_X12_mark_31 {E : gE} {d : Nat} {Q : gO → gS → Prop}   (hd : 0 ≤ d) (s0 : Int32) (v : gV) (hp : p_X12_mark_31   s0 v) (hQ : gqI Q v (f_X12_mark_31  s0 v)) : gG E m_X12_mark d Q 0 0 (rS v) 31 [] [.int s0] := by
  exact g_iret rfl dX12_mark_31 hQ
def f_X12_mark_30   (v : gV) : Int32 := f_X12_mark_31  (-1 : Int32) v
def p_X12_mark_30   (v : gV) : Prop := p_X12_mark_31   (-1 : Int32) v
set_option maxHeartbeats 4000000 in
set_option maxRecDepth 100000 in
theorem w_X12_mark_30 {E : gE} {d : Nat} {Q : gO → gS → Prop}   (hd : 0 ≤ d)  (v : gV) (hp : p_X12_mark_30    v) (hQ : gqI Q v (f_X12_mark_30   v)) : gG E m_X12_mark d Q 0 0 (rS v) 30 [] [] := by
  refine g_iconst dX12_mark_30 (-1 : Int32) (by decide) ?_
  exact w_X12_mark_31  hd    (-1 : Int32) v hp hQ
def f_X12_mark_0   (v : gV) : Int32 := if (v.1 559 20) = 0 then (if (v.1 559 17) ≤ (v.1 559 18) then (f_X12_mark_30   v) else (f_X12_mark_31  (v.1 567 (v.1 559 18).toNatClampNeg) v)) else (f_X12_mark_30   v)
def p_X12_mark_0   (v : gV) : Prop := (((v.1 559 20) = 0) → ((((v.1 559 17) ≤ (v.1 559 18)) → (p_X12_mark_30    v)) ∧ (¬ ((v.1 559 17) ≤ (v.1 559 18)) → ((vp_in (v.1 559 18) 60) ∧ (p_X12_mark_31   (v.1 567 (v.1 559 18).toNatClampNeg) v))))) ∧ (¬ ((v.1 559 20) = 0) → (p_X12_mark_30    v))
set_option maxHeartbeats 4000000 in
set_option maxRecDepth 100000 in
theorem w_X12_mark_0 {E : gE} {d : Nat} {Q : gO → gS → Prop}   (hd : 0 ≤ d)  (v : gV) (hp : p_X12_mark_0    v) (hQ : gqI Q v (f_X12_mark_0   v)) : gG E m_X12_mark d Q 0 0 (rS v) 0 [(0, .ref (gX E + 559))] [] := by
  refine g_aload_n 0 dX12_mark_0 rfl ?_
  refine r_get (.int (v.1 559 20)) f_X12_72_X12 rfl (by decide : kd 559 = (0, 9)) (show 559 < 572 by decide) dX12_mark_1 (fun _ => rfl) ?_
  refine g_if_ne 30 dX12_mark_4 (by decide) (fun h1 => ?_) (fun h1 => ?_)
  · have hQ := qn (P := gqI Q v) h1 hQ
    have hp := hp.2 h1
    refine g_lv (lv' := []) [] rfl ?_
    exact w_X12_mark_30  hd     v hp hQ
  · have hQ := qp (P := gqI Q v) h1 hQ
    have hp := hp.1 h1
    refine g_aload_n 0 dX12_mark_7 rfl ?_
    refine r_get (.int (v.1 559 18)) f_X12_66_X12 rfl (by decide : kd 559 = (0, 9)) (show 559 < 572 by decide) dX12_mark_8 (fun _ => rfl) ?_
    refine g_aload_n 0 dX12_mark_11 rfl ?_
    refine r_get (.int (v.1 559 17)) f_X12_63_X12 rfl (by decide : kd 559 = (0, 9)) (show 559 < 572 by decide) dX12_mark_12 (fun _ => rfl) ?_
    refine g_icmp_ge 30 dX12_mark_15 (by decide) (fun h2 => ?_) (fun h2 => ?_)
    · have hQ := qp (P := gqI Q v) h2 hQ
      have hp := hp.1 h2
      refine g_lv (lv' := []) [] rfl ?_
      exact w_X12_mark_30  hd     v hp hQ
    · have hQ := qn (P := gqI Q v) h2 hQ
      have hp := hp.2 h2
      refine g_aload_n 0 dX12_mark_18 rfl ?_
      refine r_get (.ref (gX E + 567)) f_X12_51_X12 rfl (by decide : kd 559 = (0, 9)) (show 559 < 572 by decide) dX12_mark_19 (fun _ => rfl) ?_
      refine g_aload_n 0 dX12_mark_22 rfl ?_
      refine r_get (.int (v.1 559 18)) f_X12_66_X12 rfl (by decide : kd 559 = (0, 9)) (show 559 < 572 by decide) dX12_mark_23 (fun _ => rfl) ?_
      obtain ⟨h3, hp⟩ := hp
      refine g_iald (by decide : kd 567 = (1, 60)) (show 567 < 572 by decide) h3 dX12_mark_26 ?_
      refine g_goto 31 dX12_mark_27 (by decide) ?_
      refine g_lv (lv' := []) [] rfl ?_
      exact w_X12_mark_31  hd    (v.1 567 (v.1 559 18).toNatClampNeg) v hp hQ
def f_X12_mark   (v : gV) : Int32 := f_X12_mark_0  v
def p_X12_mark   (v : gV) : Prop := p_X12_mark_0  v
theorem c_X12_mark {E : gE} {d : Nat}   (hd : 0 ≤ d)  (v : gV) (hp : p_X12_mark  v) : CT E m_X12_mark d 0 0 [.ref (gX E + 559)] (rS v) (Cq (.inl (some (.int (f_X12_mark  v)))) v) := CT.of ok_X12_mark rfl (Nat.le_of_ble_eq_true rfl) (w_X12_mark_0  hd  v hp ⟨rfl, rfl⟩)
def f_X12_expect_43   (v : gV) : gV := v
def p_X12_expect_43   (v : gV) : Prop := True
set_option maxHeartbeats 4000000 in
set_option maxRecDepth 100000 in
theorem w_X12_expect_43 {E : gE} {d : Nat} {Q : gO → gS → Prop}   (hd : 1 ≤ d)  (v : gV) (hp : p_X12_expect_43    v) (hQ : gqV Q (f_X12_expect_43   v)) : gG E m_X12_expect d Q 0 0 (rS v) 43 [] [] := by
  exact g_vret rfl dX12_expect_43 hQ
def f_X12_expect_39  (s0 : Int32) (s1 : Int32) (v : gV) : gV := f_X12_expect_43   (vM v 559 18 (s1 + s0))
def p_X12_expect_39  (s0 : Int32) (s1 : Int32) (v : gV) : Prop := p_X12_expect_43    (vM v 559 18 (s1 + s0))
set_option maxHeartbeats 4000000 in
set_option maxRecDepth 100000 in
theorem w_X12_expect_39 {E : gE} {d : Nat} {Q : gO → gS → Prop}   (hd : 1 ≤ d) (s0 : Int32) (s1 : Int32) (v : gV) (hp : p_X12_expect_39   s0 s1 v) (hQ : gqV Q (f_X12_expect_39  s0 s1 v)) : gG E m_X12_expect d Q 0 0 (rS v) 39 [] [.int s0, .int s1, .ref (gX E + 559)] := by
  refine g_iadd dX12_expect_39 ?_
  refine r_put pf_X12_66_X12 rfl (by decide : kd 559 = (0, 9)) (by decide) (by decide) rfl (show 559 < 572 by decide) rfl rfl dX12_expect_40 ?_
  exact w_X12_expect_43  hd     (vM v 559 18 (s1 + s0)) hp hQ
def f_X12_expect_22   (v : gV) : gV := if (v.1 559 20) = 0 then (f_X12_expect_39  (1 : Int32) (v.1 559 18) v) else (f_X12_expect_39  (0 : Int32) (v.1 559 18) v)
def p_X12_expect_22   (v : gV) : Prop := (((v.1 559 20) = 0) → (p_X12_expect_39   (1 : Int32) (v.1 559 18) v)) ∧ (¬ ((v.1 559 20) = 0) → (p_X12_expect_39   (0 : Int32) (v.1 559 18) v))
set_option maxHeartbeats 4000000 in
set_option maxRecDepth 100000 in
theorem w_X12_expect_22 {E : gE} {d : Nat} {Q : gO → gS → Prop}   (hd : 1 ≤ d)  (v : gV) (hp : p_X12_expect_22    v) (hQ : gqV Q (f_X12_expect_22   v)) : gG E m_X12_expect d Q 0 0 (rS v) 22 [(0, .ref (gX E + 559))] [] := by
  refine g_aload_n 0 dX12_expect_22 rfl ?_
  refine g_dup dX12_expect_23 rfl ?_
  refine r_get (.int (v.1 559 18)) f_X12_66_X12 rfl (by decide : kd 559 = (0, 9)) (show 559 < 572 by decide) dX12_expect_24 (fun _ => rfl) ?_
  refine g_aload_n 0 dX12_expect_27 rfl ?_
  refine r_get (.int (v.1 559 20)) f_X12_72_X12 rfl (by decide : kd 559 = (0, 9)) (show 559 < 572 by decide) dX12_expect_28 (fun _ => rfl) ?_
  refine g_if_eq 38 dX12_expect_31 (by decide) (fun h4 => ?_) (fun h4 => ?_)
  · have hQ := qp (P := gqV Q) h4 hQ
    have hp := hp.1 h4
    refine g_iconst dX12_expect_38 (1 : Int32) (by decide) ?_
    refine g_lv (lv' := []) [] rfl ?_
    exact w_X12_expect_39  hd    (1 : Int32) (v.1 559 18) v hp hQ
  · have hQ := qn (P := gqV Q) h4 hQ
    have hp := hp.2 h4
    refine g_iconst dX12_expect_34 (0 : Int32) (by decide) ?_
    refine g_goto 39 dX12_expect_35 (by decide) ?_
    refine g_lv (lv' := []) [] rfl ?_
    exact w_X12_expect_39  hd    (0 : Int32) (v.1 559 18) v hp hQ
def f_X12_expect_18  (s0 : Int32) (s1 : Int32) (v : gV) : gV := f_X12_expect_22   (vM v 559 20 (s1 ||| s0))
def p_X12_expect_18  (s0 : Int32) (s1 : Int32) (v : gV) : Prop := ((s1 ||| s0) = 0 ∨ (s1 ||| s0) = 1) ∧ (p_X12_expect_22    (vM v 559 20 (s1 ||| s0)))
set_option maxHeartbeats 4000000 in
set_option maxRecDepth 100000 in
theorem w_X12_expect_18 {E : gE} {d : Nat} {Q : gO → gS → Prop}   (hd : 1 ≤ d) (s0 : Int32) (s1 : Int32) (v : gV) (hp : p_X12_expect_18   s0 s1 v) (hQ : gqV Q (f_X12_expect_18  s0 s1 v)) : gG E m_X12_expect d Q 0 0 (rS v) 18 [(0, .ref (gX E + 559))] [.int s0, .int s1, .ref (gX E + 559)] := by
  refine g_ior dX12_expect_18 ?_
  obtain ⟨h3, hp⟩ := hp
  refine r_put pf_X12_72_X12 rfl (by decide : kd 559 = (0, 9)) (by decide) (by decide) rfl (show 559 < 572 by decide) (nz h3) (fz h3) dX12_expect_19 ?_
  exact w_X12_expect_22  hd     (vM v 559 20 (s1 ||| s0)) hp hQ
def f_X12_expect_0  (x1 : Int32) (v : gV) : gV := if (f_X12_mark  v) = x1 then (f_X12_expect_18  (0 : Int32) (v.1 559 20) v) else (f_X12_expect_18  (1 : Int32) (v.1 559 20) v)
def p_X12_expect_0  (x1 : Int32) (v : gV) : Prop := (p_X12_mark  v) ∧ ((((f_X12_mark  v) = x1) → (p_X12_expect_18   (0 : Int32) (v.1 559 20) v)) ∧ (¬ ((f_X12_mark  v) = x1) → (p_X12_expect_18   (1 : Int32) (v.1 559 20) v)))
set_option maxHeartbeats 4000000 in
set_option maxRecDepth 100000 in
theorem w_X12_expect_0 {E : gE} {d : Nat} {Q : gO → gS → Prop}   (hd : 1 ≤ d) (x1 : Int32) (v : gV) (hp : p_X12_expect_0   x1 v) (hQ : gqV Q (f_X12_expect_0  x1 v)) : gG E m_X12_expect d Q 0 0 (rS v) 0 [(0, .ref (gX E + 559)), (1, .int x1)] [] := by
  refine g_aload_n 0 dX12_expect_0 rfl ?_
  refine g_dup dX12_expect_1 rfl ?_
  refine r_get (.int (v.1 559 20)) f_X12_72_X12 rfl (by decide : kd 559 = (0, 9)) (show 559 < 572 by decide) dX12_expect_2 (fun _ => rfl) ?_
  refine g_aload_n 0 dX12_expect_5 rfl ?_
  obtain ⟨h1, hp⟩ := hp
  refine g_callV (rest := [.int (v.1 559 20), .ref (gX E + 559)]) s_X12_287_X12 rfl (c_X12_mark (E := E) (d := d - 1)   (by omega)  v h1) (by decide : kd 559 = (0, 9)) (show 559 < 572 by decide) rfl rfl (Nat.le_of_ble_eq_true rfl) (by omega) (by decide) (by decide) dX12_expect_6 (adV ?_) axN
  refine g_iload_n 1 dX12_expect_9 rfl ?_
  refine g_icmp_eq 17 dX12_expect_10 (by decide) (fun h2 => ?_) (fun h2 => ?_)
  · have hQ := qp (P := gqV Q) h2 hQ
    have hp := hp.1 h2
    refine g_iconst dX12_expect_17 (0 : Int32) (by decide) ?_
    refine g_lv (lv' := [(0, .ref (gX E + 559))]) [0] rfl ?_
    exact w_X12_expect_18  hd    (0 : Int32) (v.1 559 20) v hp hQ
  · have hQ := qn (P := gqV Q) h2 hQ
    have hp := hp.2 h2
    refine g_iconst dX12_expect_13 (1 : Int32) (by decide) ?_
    refine g_goto 18 dX12_expect_14 (by decide) ?_
    refine g_lv (lv' := [(0, .ref (gX E + 559))]) [0] rfl ?_
    exact w_X12_expect_18  hd    (1 : Int32) (v.1 559 20) v hp hQ
def f_X12_expect  (x1 : Int32) (v : gV) : gV := f_X12_expect_0 x1 v
def p_X12_expect  (x1 : Int32) (v : gV) : Prop := p_X12_expect_0 x1 v
theorem c_X12_expect {E : gE} {d : Nat}   (hd : 1 ≤ d) (x1 : Int32) (v : gV) (hp : p_X12_expect x1 v) : CT E m_X12_expect d 0 0 [.ref (gX E + 559), .int x1] (rS v) (Cq (.inl none) (f_X12_expect x1 v)) := CT.of ok_X12_expect rfl (Nat.le_of_ble_eq_true rfl) (w_X12_expect_0  hd x1 v hp ⟨rfl, rfl⟩)
def f_X12_number_85  (x2 : Int32) (v : gV) : Int32 × gV := (x2, v)
def p_X12_number_85  (x2 : Int32) (v : gV) : Prop := True
set_option maxHeartbeats 4000000 in
set_option maxRecDepth 100000 in
theorem w_X12_number_85 {E : gE} {d : Nat} {Q : gO → gS → Prop}   (hd : 1 ≤ d) (x2 : Int32) (v : gV) (hp : p_X12_number_85   x2 v) (hQ : gqIV Q (f_X12_number_85  x2 v)) : gG E m_X12_number d Q 0 0 (rS v) 85 [(2, .int x2)] [] := by
  refine g_iload_n 0 dX12_number_85 rfl ?_
  exact g_iret rfl dX12_number_86 hQ
def f_X12_number_79  (K32 : Int32 → Int32 → Int32 → gV → Int32 × gV)  (x1 : Int32) (x2 : Int32) (x3 : Int32) (v : gV) : Int32 × gV := K32 x1 x2 (x3 + 1) v
def p_X12_number_79  (K32 : Int32 → Int32 → Int32 → gV → Int32 × gV)  (PK32 : Int32 → Int32 → Int32 → gV → Prop)  (x1 : Int32) (x2 : Int32) (x3 : Int32) (v : gV) : Prop := PK32 x1 x2 (x3 + 1) v
set_option maxHeartbeats 4000000 in
set_option maxRecDepth 100000 in
theorem w_X12_number_79 {E : gE} {d : Nat} {Q : gO → gS → Prop}   (hd : 1 ≤ d) (K32 : Int32 → Int32 → Int32 → gV → Int32 × gV)  (PK32 : Int32 → Int32 → Int32 → gV → Prop)  (hK32 : ∀ (x1 : Int32) (x2 : Int32) (x3 : Int32) (v : gV), PK32 x1 x2 x3 v → gqIV Q (K32 x1 x2 x3 v) → gG E m_X12_number d Q 0 0 (rS v) 32 [(0, .ref (gX E + 559)), (1, .int x1), (2, .int x2), (3, .int x3)] [])  (x1 : Int32) (x2 : Int32) (x3 : Int32) (v : gV) (hp : p_X12_number_79 K32 PK32 x1 x2 x3 v) (hQ : gqIV Q (f_X12_number_79 K32 x1 x2 x3 v)) : gG E m_X12_number d Q 0 0 (rS v) 79 [(0, .ref (gX E + 559)), (1, .int x1), (2, .int x2), (3, .int x3)] [] := by
  refine g_iinc 3 (x3 + 1) [(3, .int (x3 + 1)), (0, .ref (gX E + 559)), (1, .int x1), (2, .int x2)] dX12_number_79 rfl rfl (by decide) rfl ?_
  refine g_goto 32 dX12_number_82 (by decide) ?_
  refine g_lv (lv' := [(0, .ref (gX E + 559)), (1, .int x1), (2, .int x2), (3, .int (x3 + 1))]) [1, 2, 3, 0] rfl ?_
  exact hK32 x1 x2 (x3 + 1) v hp hQ
def f_X12_number_32  : Nat → Int32 → Int32 → Int32 → gV → Int32 × gV
  | 0, _, _, _, v => (0, v)
  | n + 1, x1, x2, x3, v => if x1 ≤ x3 then (f_X12_number_85  x2 v) else (if (f_X12_in (f_X12_mark  v) (48 : Int32) (57 : Int32) v) = 0 then (f_X12_number_85  x2 v) else (f_X12_number_79 (fun x1 x2 x3 v => f_X12_number_32  n x1 x2 x3 v) x1 ((((10 : Int32) * x2) + (v.1 567 (v.1 559 18).toNatClampNeg)) - (48 : Int32)) x3 (vM v 559 18 ((v.1 559 18) + (1 : Int32)))))
def p_X12_number_32  : Nat → Int32 → Int32 → Int32 → gV → Prop
  | 0, _, _, _, _ => False
  | n + 1, x1, x2, x3, v => ((x1 ≤ x3) → (p_X12_number_85   x2 v)) ∧ (¬ (x1 ≤ x3) → ((p_X12_mark  v) ∧ ((p_X12_in (f_X12_mark  v) (48 : Int32) (57 : Int32) v) ∧ ((((f_X12_in (f_X12_mark  v) (48 : Int32) (57 : Int32) v) = 0) → (p_X12_number_85   x2 v)) ∧ (¬ ((f_X12_in (f_X12_mark  v) (48 : Int32) (57 : Int32) v) = 0) → ((vp_in (v.1 559 18) 60) ∧ (p_X12_number_79 (fun x1 x2 x3 v => f_X12_number_32  n x1 x2 x3 v) (fun x1 x2 x3 v => p_X12_number_32   n x1 x2 x3 v) x1 ((((10 : Int32) * x2) + (v.1 567 (v.1 559 18).toNatClampNeg)) - (48 : Int32)) x3 (vM v 559 18 ((v.1 559 18) + (1 : Int32))))))))))
set_option maxHeartbeats 4000000 in
set_option maxRecDepth 100000 in
theorem w_X12_number_32 {E : gE} {d : Nat} {Q : gO → gS → Prop}   (hd : 1 ≤ d) : ∀ (n : Nat) (x1 : Int32) (x2 : Int32) (x3 : Int32) (v : gV), p_X12_number_32   n x1 x2 x3 v → gqIV Q (f_X12_number_32  n x1 x2 x3 v) → gG E m_X12_number d Q 0 0 (rS v) 32 [(0, .ref (gX E + 559)), (1, .int x1), (2, .int x2), (3, .int x3)] [] := by
  intro n
  induction n with
  | zero => intro x1 x2 x3 v hp; exact hp.elim
  | succ n ih =>
    intro x1 x2 x3 v hp hQ
    refine g_iload_n 3 dX12_number_32 rfl ?_
    refine g_iload_n 1 dX12_number_33 rfl ?_
    refine g_icmp_ge 85 dX12_number_34 (by decide) (fun h5 => ?_) (fun h5 => ?_)
    · have hQ := qp (P := gqIV Q) h5 hQ
      have hp := hp.1 h5
      refine g_lv (lv' := [(2, .int x2)]) [2] rfl ?_
      exact w_X12_number_85  hd    x2 v hp hQ
    · have hQ := qn (P := gqIV Q) h5 hQ
      have hp := hp.2 h5
      refine g_aload_n 0 dX12_number_37 rfl ?_
      obtain ⟨h6, hp⟩ := hp
      refine g_callV (rest := []) s_X12_287_X12 rfl (c_X12_mark (E := E) (d := d - 1)   (by omega)  v h6) (by decide : kd 559 = (0, 9)) (show 559 < 572 by decide) rfl rfl (Nat.le_of_ble_eq_true rfl) (by omega) (by decide) (by decide) dX12_number_38 (adV ?_) axN
      refine g_bipush dX12_number_41 (48 : Int32) (by decide) ?_
      refine g_bipush dX12_number_43 (57 : Int32) (by decide) ?_
      obtain ⟨h7, hp⟩ := hp
      refine g_callS (rest := []) s_X12_83 rfl (c_X12_in (E := E) (d := d - 1)   (by omega) (f_X12_mark  v) (48 : Int32) (57 : Int32) v h7) rfl rfl (Nat.le_of_ble_eq_true rfl) (by omega) (by decide) (by decide) dX12_number_45 (adV ?_) axN
      refine g_if_eq 85 dX12_number_48 (by decide) (fun h8 => ?_) (fun h8 => ?_)
      · have hQ := qp (P := gqIV Q) h8 hQ
        have hp := hp.1 h8
        refine g_lv (lv' := [(2, .int x2)]) [2] rfl ?_
        exact w_X12_number_85  hd    x2 v hp hQ
      · have hQ := qn (P := gqIV Q) h8 hQ
        have hp := hp.2 h8
        refine g_bipush dX12_number_51 (10 : Int32) (by decide) ?_
        refine g_iload_n 2 dX12_number_53 rfl ?_
        refine g_imul dX12_number_54 ?_
        refine g_aload_n 0 dX12_number_55 rfl ?_
        refine r_get (.ref (gX E + 567)) f_X12_51_X12 rfl (by decide : kd 559 = (0, 9)) (show 559 < 572 by decide) dX12_number_56 (fun _ => rfl) ?_
        refine g_aload_n 0 dX12_number_59 rfl ?_
        refine r_get (.int (v.1 559 18)) f_X12_66_X12 rfl (by decide : kd 559 = (0, 9)) (show 559 < 572 by decide) dX12_number_60 (fun _ => rfl) ?_
        obtain ⟨h9, hp⟩ := hp
        refine g_iald (by decide : kd 567 = (1, 60)) (show 567 < 572 by decide) h9 dX12_number_63 ?_
        refine g_iadd dX12_number_64 ?_
        refine g_bipush dX12_number_65 (48 : Int32) (by decide) ?_
        refine g_isub dX12_number_67 ?_
        refine g_istore_n [(2, .int ((((10 : Int32) * x2) + (v.1 567 (v.1 559 18).toNatClampNeg)) - (48 : Int32))), (0, .ref (gX E + 559)), (1, .int x1), (3, .int x3)] dX12_number_68 rfl (by decide) rfl ?_
        refine g_aload_n 1 dX12_number_69 rfl ?_
        refine g_dup dX12_number_70 rfl ?_
        refine r_get (.int (v.1 559 18)) f_X12_66_X12 rfl (by decide : kd 559 = (0, 9)) (show 559 < 572 by decide) dX12_number_71 (fun _ => rfl) ?_
        refine g_iconst dX12_number_74 (1 : Int32) (by decide) ?_
        refine g_iadd dX12_number_75 ?_
        refine r_put pf_X12_66_X12 rfl (by decide : kd 559 = (0, 9)) (by decide) (by decide) rfl (show 559 < 572 by decide) rfl rfl dX12_number_76 ?_
        refine g_lv (lv' := [(0, .ref (gX E + 559)), (1, .int x1), (2, .int ((((10 : Int32) * x2) + (v.1 567 (v.1 559 18).toNatClampNeg)) - (48 : Int32))), (3, .int x3)]) [1, 2, 0, 3] rfl ?_
        exact w_X12_number_79  hd (fun x1 x2 x3 v => f_X12_number_32  n x1 x2 x3 v) (fun x1 x2 x3 v => p_X12_number_32   n x1 x2 x3 v) ih x1 ((((10 : Int32) * x2) + (v.1 567 (v.1 559 18).toNatClampNeg)) - (48 : Int32)) x3 (vM v 559 18 ((v.1 559 18) + (1 : Int32))) hp hQ
def f_X12_number_28  (x1 : Int32) (v : gV) : Int32 × gV := f_X12_number_32  5000 x1 (0 : Int32) (0 : Int32) v
def p_X12_number_28  (x1 : Int32) (v : gV) : Prop := p_X12_number_32   5000 x1 (0 : Int32) (0 : Int32) v
set_option maxHeartbeats 4000000 in
set_option maxRecDepth 100000 in
theorem w_X12_number_28 {E : gE} {d : Nat} {Q : gO → gS → Prop}   (hd : 1 ≤ d) (x1 : Int32) (v : gV) (hp : p_X12_number_28   x1 v) (hQ : gqIV Q (f_X12_number_28  x1 v)) : gG E m_X12_number d Q 0 0 (rS v) 28 [(0, .ref (gX E + 559)), (1, .int x1)] [] := by
  refine g_iconst dX12_number_28 (0 : Int32) (by decide) ?_
  refine g_istore_n [(2, .int ((0 : Int32))), (0, .ref (gX E + 559)), (1, .int x1)] dX12_number_29 rfl (by decide) rfl ?_
  refine g_iconst dX12_number_30 (0 : Int32) (by decide) ?_
  refine g_istore_n [(3, .int ((0 : Int32))), (2, .int ((0 : Int32))), (0, .ref (gX E + 559)), (1, .int x1)] dX12_number_31 rfl (by decide) rfl ?_
  refine g_lv (lv' := [(0, .ref (gX E + 559)), (1, .int x1), (2, .int ((0 : Int32))), (3, .int ((0 : Int32)))]) [2, 3, 1, 0] rfl ?_
  exact w_X12_number_32  hd    5000 x1 (0 : Int32) (0 : Int32) v hp hQ
def f_X12_number_24  (x1 : Int32) (s0 : Int32) (s1 : Int32) (v : gV) : Int32 × gV := f_X12_number_28  x1 (vM v 559 20 (s1 ||| s0))
def p_X12_number_24  (x1 : Int32) (s0 : Int32) (s1 : Int32) (v : gV) : Prop := ((s1 ||| s0) = 0 ∨ (s1 ||| s0) = 1) ∧ (p_X12_number_28   x1 (vM v 559 20 (s1 ||| s0)))
set_option maxHeartbeats 4000000 in
set_option maxRecDepth 100000 in
theorem w_X12_number_24 {E : gE} {d : Nat} {Q : gO → gS → Prop}   (hd : 1 ≤ d) (x1 : Int32) (s0 : Int32) (s1 : Int32) (v : gV) (hp : p_X12_number_24   x1 s0 s1 v) (hQ : gqIV Q (f_X12_number_24  x1 s0 s1 v)) : gG E m_X12_number d Q 0 0 (rS v) 24 [(0, .ref (gX E + 559)), (1, .int x1)] [.int s0, .int s1, .ref (gX E + 559)] := by
  refine g_ior dX12_number_24 ?_
  obtain ⟨h4, hp⟩ := hp
  refine r_put pf_X12_72_X12 rfl (by decide : kd 559 = (0, 9)) (by decide) (by decide) rfl (show 559 < 572 by decide) (nz h4) (fz h4) dX12_number_25 ?_
  exact w_X12_number_28  hd    x1 (vM v 559 20 (s1 ||| s0)) hp hQ
def f_X12_number_0  (x1 : Int32) (v : gV) : Int32 × gV := if (f_X12_in (f_X12_mark  v) (48 : Int32) (57 : Int32) v) = 0 then (f_X12_number_24  x1 (1 : Int32) (v.1 559 20) v) else (f_X12_number_24  x1 (0 : Int32) (v.1 559 20) v)
def p_X12_number_0  (x1 : Int32) (v : gV) : Prop := (p_X12_mark  v) ∧ ((p_X12_in (f_X12_mark  v) (48 : Int32) (57 : Int32) v) ∧ ((((f_X12_in (f_X12_mark  v) (48 : Int32) (57 : Int32) v) = 0) → (p_X12_number_24   x1 (1 : Int32) (v.1 559 20) v)) ∧ (¬ ((f_X12_in (f_X12_mark  v) (48 : Int32) (57 : Int32) v) = 0) → (p_X12_number_24   x1 (0 : Int32) (v.1 559 20) v))))
set_option maxHeartbeats 4000000 in
set_option maxRecDepth 100000 in
theorem w_X12_number_0 {E : gE} {d : Nat} {Q : gO → gS → Prop}   (hd : 1 ≤ d) (x1 : Int32) (v : gV) (hp : p_X12_number_0   x1 v) (hQ : gqIV Q (f_X12_number_0  x1 v)) : gG E m_X12_number d Q 0 0 (rS v) 0 [(0, .ref (gX E + 559)), (1, .int x1)] [] := by
  refine g_aload_n 0 dX12_number_0 rfl ?_
  refine g_dup dX12_number_1 rfl ?_
  refine r_get (.int (v.1 559 20)) f_X12_72_X12 rfl (by decide : kd 559 = (0, 9)) (show 559 < 572 by decide) dX12_number_2 (fun _ => rfl) ?_
  refine g_aload_n 0 dX12_number_5 rfl ?_
  obtain ⟨h1, hp⟩ := hp
  refine g_callV (rest := [.int (v.1 559 20), .ref (gX E + 559)]) s_X12_287_X12 rfl (c_X12_mark (E := E) (d := d - 1)   (by omega)  v h1) (by decide : kd 559 = (0, 9)) (show 559 < 572 by decide) rfl rfl (Nat.le_of_ble_eq_true rfl) (by omega) (by decide) (by decide) dX12_number_6 (adV ?_) axN
  refine g_bipush dX12_number_9 (48 : Int32) (by decide) ?_
  refine g_bipush dX12_number_11 (57 : Int32) (by decide) ?_
  obtain ⟨h2, hp⟩ := hp
  refine g_callS (rest := [.int (v.1 559 20), .ref (gX E + 559)]) s_X12_83 rfl (c_X12_in (E := E) (d := d - 1)   (by omega) (f_X12_mark  v) (48 : Int32) (57 : Int32) v h2) rfl rfl (Nat.le_of_ble_eq_true rfl) (by omega) (by decide) (by decide) dX12_number_13 (adV ?_) axN
  refine g_if_ne 23 dX12_number_16 (by decide) (fun h3 => ?_) (fun h3 => ?_)
  · have hQ := qn (P := gqIV Q) h3 hQ
    have hp := hp.2 h3
    refine g_iconst dX12_number_23 (0 : Int32) (by decide) ?_
    exact w_X12_number_24  hd    x1 (0 : Int32) (v.1 559 20) v hp hQ
  · have hQ := qp (P := gqIV Q) h3 hQ
    have hp := hp.1 h3
    refine g_iconst dX12_number_19 (1 : Int32) (by decide) ?_
    refine g_goto 24 dX12_number_20 (by decide) ?_
    exact w_X12_number_24  hd    x1 (1 : Int32) (v.1 559 20) v hp hQ
def f_X12_number  (x1 : Int32) (v : gV) : Int32 × gV := f_X12_number_0 x1 v
def p_X12_number  (x1 : Int32) (v : gV) : Prop := p_X12_number_0 x1 v
theorem c_X12_number {E : gE} {d : Nat}   (hd : 1 ≤ d) (x1 : Int32) (v : gV) (hp : p_X12_number x1 v) : CT E m_X12_number d 0 0 [.ref (gX E + 559), .int x1] (rS v) (Cq (.inl (some (.int ((f_X12_number x1 v).1)))) (f_X12_number x1 v).2) := CT.of ok_X12_number rfl (Nat.le_of_ble_eq_true rfl) (w_X12_number_0  hd x1 v hp ⟨rfl, rfl⟩)
def f_X12_cause_47  (x1 : Int32) (v : gV) : Int32 × gV := (x1, v)
def p_X12_cause_47  (x1 : Int32) (v : gV) : Prop := True
set_option maxHeartbeats 4000000 in
set_option maxRecDepth 100000 in
theorem w_X12_cause_47 {E : gE} {d : Nat} {Q : gO → gS → Prop}   (hd : 1 ≤ d) (x1 : Int32) (v : gV) (hp : p_X12_cause_47   x1 v) (hQ : gqIV Q (f_X12_cause_47  x1 v)) : gG E m_X12_cause d Q 0 0 (rS v) 47 [(1, .int x1)] [] := by
  refine g_iload_n 0 dX12_cause_47 rfl ?_
  exact g_iret rfl dX12_cause_48 hQ
def f_X12_cause_43  (x1 : Int32) (s0 : Int32) (s1 : Int32) (v : gV) : Int32 × gV := f_X12_cause_47  x1 (vM v 559 18 (s1 + s0))
def p_X12_cause_43  (x1 : Int32) (s0 : Int32) (s1 : Int32) (v : gV) : Prop := p_X12_cause_47   x1 (vM v 559 18 (s1 + s0))
set_option maxHeartbeats 4000000 in
set_option maxRecDepth 100000 in
theorem w_X12_cause_43 {E : gE} {d : Nat} {Q : gO → gS → Prop}   (hd : 1 ≤ d) (x1 : Int32) (s0 : Int32) (s1 : Int32) (v : gV) (hp : p_X12_cause_43   x1 s0 s1 v) (hQ : gqIV Q (f_X12_cause_43  x1 s0 s1 v)) : gG E m_X12_cause d Q 0 0 (rS v) 43 [(1, .int x1)] [.int s0, .int s1, .ref (gX E + 559)] := by
  refine g_iadd dX12_cause_43 ?_
  refine r_put pf_X12_66_X12 rfl (by decide : kd 559 = (0, 9)) (by decide) (by decide) rfl (show 559 < 572 by decide) rfl rfl dX12_cause_44 ?_
  exact w_X12_cause_47  hd    x1 (vM v 559 18 (s1 + s0)) hp hQ
def f_X12_cause_26  (x1 : Int32) (v : gV) : Int32 × gV := if (v.1 559 20) = 0 then (f_X12_cause_43  x1 (1 : Int32) (v.1 559 18) v) else (f_X12_cause_43  x1 (0 : Int32) (v.1 559 18) v)
def p_X12_cause_26  (x1 : Int32) (v : gV) : Prop := (((v.1 559 20) = 0) → (p_X12_cause_43   x1 (1 : Int32) (v.1 559 18) v)) ∧ (¬ ((v.1 559 20) = 0) → (p_X12_cause_43   x1 (0 : Int32) (v.1 559 18) v))
set_option maxHeartbeats 4000000 in
set_option maxRecDepth 100000 in
theorem w_X12_cause_26 {E : gE} {d : Nat} {Q : gO → gS → Prop}   (hd : 1 ≤ d) (x1 : Int32) (v : gV) (hp : p_X12_cause_26   x1 v) (hQ : gqIV Q (f_X12_cause_26  x1 v)) : gG E m_X12_cause d Q 0 0 (rS v) 26 [(0, .ref (gX E + 559)), (1, .int x1)] [] := by
  refine g_aload_n 0 dX12_cause_26 rfl ?_
  refine g_dup dX12_cause_27 rfl ?_
  refine r_get (.int (v.1 559 18)) f_X12_66_X12 rfl (by decide : kd 559 = (0, 9)) (show 559 < 572 by decide) dX12_cause_28 (fun _ => rfl) ?_
  refine g_aload_n 0 dX12_cause_31 rfl ?_
  refine r_get (.int (v.1 559 20)) f_X12_72_X12 rfl (by decide : kd 559 = (0, 9)) (show 559 < 572 by decide) dX12_cause_32 (fun _ => rfl) ?_
  refine g_if_eq 42 dX12_cause_35 (by decide) (fun h5 => ?_) (fun h5 => ?_)
  · have hQ := qp (P := gqIV Q) h5 hQ
    have hp := hp.1 h5
    refine g_iconst dX12_cause_42 (1 : Int32) (by decide) ?_
    refine g_lv (lv' := [(1, .int x1)]) [1] rfl ?_
    exact w_X12_cause_43  hd    x1 (1 : Int32) (v.1 559 18) v hp hQ
  · have hQ := qn (P := gqIV Q) h5 hQ
    have hp := hp.2 h5
    refine g_iconst dX12_cause_38 (0 : Int32) (by decide) ?_
    refine g_goto 43 dX12_cause_39 (by decide) ?_
    refine g_lv (lv' := [(1, .int x1)]) [1] rfl ?_
    exact w_X12_cause_43  hd    x1 (0 : Int32) (v.1 559 18) v hp hQ
def f_X12_cause_22  (x1 : Int32) (s0 : Int32) (s1 : Int32) (v : gV) : Int32 × gV := f_X12_cause_26  x1 (vM v 559 20 (s1 ||| s0))
def p_X12_cause_22  (x1 : Int32) (s0 : Int32) (s1 : Int32) (v : gV) : Prop := ((s1 ||| s0) = 0 ∨ (s1 ||| s0) = 1) ∧ (p_X12_cause_26   x1 (vM v 559 20 (s1 ||| s0)))
set_option maxHeartbeats 4000000 in
set_option maxRecDepth 100000 in
theorem w_X12_cause_22 {E : gE} {d : Nat} {Q : gO → gS → Prop}   (hd : 1 ≤ d) (x1 : Int32) (s0 : Int32) (s1 : Int32) (v : gV) (hp : p_X12_cause_22   x1 s0 s1 v) (hQ : gqIV Q (f_X12_cause_22  x1 s0 s1 v)) : gG E m_X12_cause d Q 0 0 (rS v) 22 [(0, .ref (gX E + 559)), (1, .int x1)] [.int s0, .int s1, .ref (gX E + 559)] := by
  refine g_ior dX12_cause_22 ?_
  obtain ⟨h4, hp⟩ := hp
  refine r_put pf_X12_72_X12 rfl (by decide : kd 559 = (0, 9)) (by decide) (by decide) rfl (show 559 < 572 by decide) (nz h4) (fz h4) dX12_cause_23 ?_
  exact w_X12_cause_26  hd    x1 (vM v 559 20 (s1 ||| s0)) hp hQ
def f_X12_cause_0   (v : gV) : Int32 × gV := if (f_X12_isCause (f_X12_mark  v) v) = 0 then (f_X12_cause_22  (f_X12_mark  v) (1 : Int32) (v.1 559 20) v) else (f_X12_cause_22  (f_X12_mark  v) (0 : Int32) (v.1 559 20) v)
def p_X12_cause_0   (v : gV) : Prop := (p_X12_mark  v) ∧ ((p_X12_isCause (f_X12_mark  v) v) ∧ ((((f_X12_isCause (f_X12_mark  v) v) = 0) → (p_X12_cause_22   (f_X12_mark  v) (1 : Int32) (v.1 559 20) v)) ∧ (¬ ((f_X12_isCause (f_X12_mark  v) v) = 0) → (p_X12_cause_22   (f_X12_mark  v) (0 : Int32) (v.1 559 20) v))))
set_option maxHeartbeats 4000000 in
set_option maxRecDepth 100000 in
theorem w_X12_cause_0 {E : gE} {d : Nat} {Q : gO → gS → Prop}   (hd : 1 ≤ d)  (v : gV) (hp : p_X12_cause_0    v) (hQ : gqIV Q (f_X12_cause_0   v)) : gG E m_X12_cause d Q 0 0 (rS v) 0 [(0, .ref (gX E + 559))] [] := by
  refine g_aload_n 0 dX12_cause_0 rfl ?_
  obtain ⟨h1, hp⟩ := hp
  refine g_callV (rest := []) s_X12_287_X12 rfl (c_X12_mark (E := E) (d := d - 1)   (by omega)  v h1) (by decide : kd 559 = (0, 9)) (show 559 < 572 by decide) rfl rfl (Nat.le_of_ble_eq_true rfl) (by omega) (by decide) (by decide) dX12_cause_1 (adV ?_) axN
  refine g_istore_n [(1, .int ((f_X12_mark  v))), (0, .ref (gX E + 559))] dX12_cause_4 rfl (by decide) rfl ?_
  refine g_aload_n 1 dX12_cause_5 rfl ?_
  refine g_dup dX12_cause_6 rfl ?_
  refine r_get (.int (v.1 559 20)) f_X12_72_X12 rfl (by decide : kd 559 = (0, 9)) (show 559 < 572 by decide) dX12_cause_7 (fun _ => rfl) ?_
  refine g_iload_n 0 dX12_cause_10 rfl ?_
  obtain ⟨h2, hp⟩ := hp
  refine g_callS (rest := [.int (v.1 559 20), .ref (gX E + 559)]) s_X12_152 rfl (c_X12_isCause (E := E) (d := d - 1)   (by omega) (f_X12_mark  v) v h2) rfl rfl (Nat.le_of_ble_eq_true rfl) (by omega) (by decide) (by decide) dX12_cause_11 (adV ?_) axN
  refine g_if_ne 21 dX12_cause_14 (by decide) (fun h3 => ?_) (fun h3 => ?_)
  · have hQ := qn (P := gqIV Q) h3 hQ
    have hp := hp.2 h3
    refine g_iconst dX12_cause_21 (0 : Int32) (by decide) ?_
    refine g_lv (lv' := [(0, .ref (gX E + 559)), (1, .int ((f_X12_mark  v)))]) [1, 0] rfl ?_
    exact w_X12_cause_22  hd    (f_X12_mark  v) (0 : Int32) (v.1 559 20) v hp hQ
  · have hQ := qp (P := gqIV Q) h3 hQ
    have hp := hp.1 h3
    refine g_iconst dX12_cause_17 (1 : Int32) (by decide) ?_
    refine g_goto 22 dX12_cause_18 (by decide) ?_
    refine g_lv (lv' := [(0, .ref (gX E + 559)), (1, .int ((f_X12_mark  v)))]) [1, 0] rfl ?_
    exact w_X12_cause_22  hd    (f_X12_mark  v) (1 : Int32) (v.1 559 20) v hp hQ
def f_X12_cause   (v : gV) : Int32 × gV := f_X12_cause_0  v
def p_X12_cause   (v : gV) : Prop := p_X12_cause_0  v
theorem c_X12_cause {E : gE} {d : Nat}   (hd : 1 ≤ d)  (v : gV) (hp : p_X12_cause  v) : CT E m_X12_cause d 0 0 [.ref (gX E + 559)] (rS v) (Cq (.inl (some (.int ((f_X12_cause  v).1)))) (f_X12_cause  v).2) := CT.of ok_X12_cause rfl (Nat.le_of_ble_eq_true rfl) (w_X12_cause_0  hd  v hp ⟨rfl, rfl⟩)
def f_X12_pick_0  (x0 : Int32) (x1 : Int32) (x2 : Int32) (x3 : Int32) (x4 : Int32) (x5 : Int32) (x6 : Int32) (v : gV) : Int32 := if x0 = 0 then x1 else (if x0 = 1 then x2 else (if x0 = 2 then x3 else (if x0 = 3 then x4 else (if x0 = 4 then x5 else (if x0 = 5 then x6 else ((0 : Int32)))))))
def p_X12_pick_0  (x0 : Int32) (x1 : Int32) (x2 : Int32) (x3 : Int32) (x4 : Int32) (x5 : Int32) (x6 : Int32) (v : gV) : Prop := ((x0 = 0) → (True)) ∧ (¬ (x0 = 0) → (((x0 = 1) → (True)) ∧ (¬ (x0 = 1) → (((x0 = 2) → (True)) ∧ (¬ (x0 = 2) → (((x0 = 3) → (True)) ∧ (¬ (x0 = 3) → (((x0 = 4) → (True)) ∧ (¬ (x0 = 4) → (((x0 = 5) → (True)) ∧ (¬ (x0 = 5) → (True))))))))))))
set_option maxHeartbeats 4000000 in
set_option maxRecDepth 100000 in
theorem w_X12_pick_0 {E : gE} {d : Nat} {Q : gO → gS → Prop}   (hd : 0 ≤ d) (x0 : Int32) (x1 : Int32) (x2 : Int32) (x3 : Int32) (x4 : Int32) (x5 : Int32) (x6 : Int32) (v : gV) (hp : p_X12_pick_0   x0 x1 x2 x3 x4 x5 x6 v) (hQ : gqI Q v (f_X12_pick_0  x0 x1 x2 x3 x4 x5 x6 v)) : gG E m_X12_pick d Q 0 0 (rS v) 0 [(0, .int x0), (1, .int x1), (2, .int x2), (3, .int x3), (4, .int x4), (5, .int x5), (6, .int x6)] [] := by
  refine g_iload_n 0 dX12_pick_0 rfl ?_
  by_cases h1 : x0 = 0
  · have hQ := qp (P := gqI Q v) h1 hQ
    have hp := hp.1 h1
    refine g_tableIn 40 dX12_pick_1 (by rw [h1]; decide) (by rw [h1]; decide) (by rw [h1]; rfl) (by decide) ?_
    refine g_iload_n 1 dX12_pick_40 rfl ?_
    exact g_iret rfl dX12_pick_41 hQ
  have hQ := qn (P := gqI Q v) h1 hQ
  have hp := hp.2 h1
  by_cases h2 : x0 = 1
  · have hQ := qp (P := gqI Q v) h2 hQ
    have hp := hp.1 h2
    refine g_tableIn 42 dX12_pick_1 (by rw [h2]; decide) (by rw [h2]; decide) (by rw [h2]; rfl) (by decide) ?_
    refine g_iload_n 2 dX12_pick_42 rfl ?_
    exact g_iret rfl dX12_pick_43 hQ
  have hQ := qn (P := gqI Q v) h2 hQ
  have hp := hp.2 h2
  by_cases h3 : x0 = 2
  · have hQ := qp (P := gqI Q v) h3 hQ
    have hp := hp.1 h3
    refine g_tableIn 44 dX12_pick_1 (by rw [h3]; decide) (by rw [h3]; decide) (by rw [h3]; rfl) (by decide) ?_
    refine g_iload_n 3 dX12_pick_44 rfl ?_
    exact g_iret rfl dX12_pick_45 hQ
  have hQ := qn (P := gqI Q v) h3 hQ
  have hp := hp.2 h3
  by_cases h4 : x0 = 3
  · have hQ := qp (P := gqI Q v) h4 hQ
    have hp := hp.1 h4
    refine g_tableIn 46 dX12_pick_1 (by rw [h4]; decide) (by rw [h4]; decide) (by rw [h4]; rfl) (by decide) ?_
    refine g_iload 4 dX12_pick_46 rfl ?_
    exact g_iret rfl dX12_pick_48 hQ
  have hQ := qn (P := gqI Q v) h4 hQ
  have hp := hp.2 h4
  by_cases h5 : x0 = 4
  · have hQ := qp (P := gqI Q v) h5 hQ
    have hp := hp.1 h5
    refine g_tableIn 49 dX12_pick_1 (by rw [h5]; decide) (by rw [h5]; decide) (by rw [h5]; rfl) (by decide) ?_
    refine g_iload 5 dX12_pick_49 rfl ?_
    exact g_iret rfl dX12_pick_51 hQ
  have hQ := qn (P := gqI Q v) h5 hQ
  have hp := hp.2 h5
  by_cases h6 : x0 = 5
  · have hQ := qp (P := gqI Q v) h6 hQ
    have hp := hp.1 h6
    refine g_tableIn 52 dX12_pick_1 (by rw [h6]; decide) (by rw [h6]; decide) (by rw [h6]; rfl) (by decide) ?_
    refine g_iload 6 dX12_pick_52 rfl ?_
    exact g_iret rfl dX12_pick_54 hQ
  have hQ := qn (P := gqI Q v) h6 hQ
  have hp := hp.2 h6
  refine g_tableOut 55 dX12_pick_1 (gsw_out [0, 1, 2, 3, 4, 5] x0 (by decide) ⟨h1, h2, h3, h4, h5, h6, trivial⟩) (by decide) ?_
  refine g_iconst dX12_pick_55 (0 : Int32) (by decide) ?_
  exact g_iret rfl dX12_pick_56 hQ
def f_X12_pick  (x0 : Int32) (x1 : Int32) (x2 : Int32) (x3 : Int32) (x4 : Int32) (x5 : Int32) (x6 : Int32) (v : gV) : Int32 := f_X12_pick_0 x0 x1 x2 x3 x4 x5 x6 v
def p_X12_pick  (x0 : Int32) (x1 : Int32) (x2 : Int32) (x3 : Int32) (x4 : Int32) (x5 : Int32) (x6 : Int32) (v : gV) : Prop := p_X12_pick_0 x0 x1 x2 x3 x4 x5 x6 v
theorem c_X12_pick {E : gE} {d : Nat}   (hd : 0 ≤ d) (x0 : Int32) (x1 : Int32) (x2 : Int32) (x3 : Int32) (x4 : Int32) (x5 : Int32) (x6 : Int32) (v : gV) (hp : p_X12_pick x0 x1 x2 x3 x4 x5 x6 v) : CT E m_X12_pick d 0 0 [.int x0, .int x1, .int x2, .int x3, .int x4, .int x5, .int x6] (rS v) (Cq (.inl (some (.int (f_X12_pick x0 x1 x2 x3 x4 x5 x6 v)))) v) := CT.of ok_X12_pick rfl (Nat.le_of_ble_eq_true rfl) (w_X12_pick_0  hd x0 x1 x2 x3 x4 x5 x6 v hp ⟨rfl, rfl⟩)
def f_X12_spelled_0  (x0 : Int32) (x1 : Int32) (v : gV) : Int32 := if x0 = 0 then ((f_X12_pick x1 (105 : Int32) (110 : Int32) (115 : Int32) (117 : Int32) (114 : Int32) (101 : Int32) v)) else (if x0 = 1 then ((f_X12_pick x1 (101 : Int32) (110 : Int32) (100 : Int32) (0 : Int32) (0 : Int32) (0 : Int32) v)) else (if x0 = 2 then ((f_X12_pick x1 (116 : Int32) (114 : Int32) (101 : Int32) (97 : Int32) (116 : Int32) (121 : Int32) v)) else (if x0 = 3 then ((f_X12_pick x1 (118 : Int32) (111 : Int32) (105 : Int32) (100 : Int32) (0 : Int32) (0 : Int32) v)) else (if x0 = 4 then ((f_X12_pick x1 (99 : Int32) (108 : Int32) (97 : Int32) (105 : Int32) (109 : Int32) (0 : Int32) v)) else (if x0 = 5 then ((f_X12_pick x1 (112 : Int32) (97 : Int32) (121 : Int32) (0 : Int32) (0 : Int32) (0 : Int32) v)) else (if x0 = 6 then ((f_X12_pick x1 (99 : Int32) (108 : Int32) (111 : Int32) (115 : Int32) (101 : Int32) (0 : Int32) v)) else (if x0 = 7 then ((f_X12_pick x1 (119 : Int32) (97 : Int32) (105 : Int32) (118 : Int32) (101 : Int32) (0 : Int32) v)) else (if x0 = 8 then ((f_X12_pick x1 (111 : Int32) (102 : Int32) (102 : Int32) (101 : Int32) (114 : Int32) (0 : Int32) v)) else ((f_X12_pick x1 (119 : Int32) (97 : Int32) (105 : Int32) (116 : Int32) (0 : Int32) (0 : Int32) v))))))))))
def p_X12_spelled_0  (x0 : Int32) (x1 : Int32) (v : gV) : Prop := ((x0 = 0) → ((p_X12_pick x1 (105 : Int32) (110 : Int32) (115 : Int32) (117 : Int32) (114 : Int32) (101 : Int32) v) ∧ (True))) ∧ (¬ (x0 = 0) → (((x0 = 1) → ((p_X12_pick x1 (101 : Int32) (110 : Int32) (100 : Int32) (0 : Int32) (0 : Int32) (0 : Int32) v) ∧ (True))) ∧ (¬ (x0 = 1) → (((x0 = 2) → ((p_X12_pick x1 (116 : Int32) (114 : Int32) (101 : Int32) (97 : Int32) (116 : Int32) (121 : Int32) v) ∧ (True))) ∧ (¬ (x0 = 2) → (((x0 = 3) → ((p_X12_pick x1 (118 : Int32) (111 : Int32) (105 : Int32) (100 : Int32) (0 : Int32) (0 : Int32) v) ∧ (True))) ∧ (¬ (x0 = 3) → (((x0 = 4) → ((p_X12_pick x1 (99 : Int32) (108 : Int32) (97 : Int32) (105 : Int32) (109 : Int32) (0 : Int32) v) ∧ (True))) ∧ (¬ (x0 = 4) → (((x0 = 5) → ((p_X12_pick x1 (112 : Int32) (97 : Int32) (121 : Int32) (0 : Int32) (0 : Int32) (0 : Int32) v) ∧ (True))) ∧ (¬ (x0 = 5) → (((x0 = 6) → ((p_X12_pick x1 (99 : Int32) (108 : Int32) (111 : Int32) (115 : Int32) (101 : Int32) (0 : Int32) v) ∧ (True))) ∧ (¬ (x0 = 6) → (((x0 = 7) → ((p_X12_pick x1 (119 : Int32) (97 : Int32) (105 : Int32) (118 : Int32) (101 : Int32) (0 : Int32) v) ∧ (True))) ∧ (¬ (x0 = 7) → (((x0 = 8) → ((p_X12_pick x1 (111 : Int32) (102 : Int32) (102 : Int32) (101 : Int32) (114 : Int32) (0 : Int32) v) ∧ (True))) ∧ (¬ (x0 = 8) → ((p_X12_pick x1 (119 : Int32) (97 : Int32) (105 : Int32) (116 : Int32) (0 : Int32) (0 : Int32) v) ∧ (True)))))))))))))))))))
set_option maxHeartbeats 4000000 in
set_option maxRecDepth 100000 in
theorem w_X12_spelled_0 {E : gE} {d : Nat} {Q : gO → gS → Prop}   (hd : 1 ≤ d) (x0 : Int32) (x1 : Int32) (v : gV) (hp : p_X12_spelled_0   x0 x1 v) (hQ : gqI Q v (f_X12_spelled_0  x0 x1 v)) : gG E m_X12_spelled d Q 0 0 (rS v) 0 [(0, .int x0), (1, .int x1)] [] := by
  refine g_iload_n 0 dX12_spelled_0 rfl ?_
  by_cases h1 : x0 = 0
  · have hQ := qp (P := gqI Q v) h1 hQ
    have hp := hp.1 h1
    refine g_tableIn 52 dX12_spelled_1 (by rw [h1]; decide) (by rw [h1]; decide) (by rw [h1]; rfl) (by decide) ?_
    refine g_iload_n 1 dX12_spelled_52 rfl ?_
    refine g_bipush dX12_spelled_53 (105 : Int32) (by decide) ?_
    refine g_bipush dX12_spelled_55 (110 : Int32) (by decide) ?_
    refine g_bipush dX12_spelled_57 (115 : Int32) (by decide) ?_
    refine g_bipush dX12_spelled_59 (117 : Int32) (by decide) ?_
    refine g_bipush dX12_spelled_61 (114 : Int32) (by decide) ?_
    refine g_bipush dX12_spelled_63 (101 : Int32) (by decide) ?_
    obtain ⟨h2, hp⟩ := hp
    refine g_callS (rest := []) s_X12_290 rfl (c_X12_pick (E := E) (d := d - 1)   (by omega) x1 (105 : Int32) (110 : Int32) (115 : Int32) (117 : Int32) (114 : Int32) (101 : Int32) v h2) rfl rfl (Nat.le_of_ble_eq_true rfl) (by omega) (by decide) (by decide) dX12_spelled_65 (adV ?_) axN
    exact g_iret rfl dX12_spelled_68 hQ
  have hQ := qn (P := gqI Q v) h1 hQ
  have hp := hp.2 h1
  by_cases h3 : x0 = 1
  · have hQ := qp (P := gqI Q v) h3 hQ
    have hp := hp.1 h3
    refine g_tableIn 69 dX12_spelled_1 (by rw [h3]; decide) (by rw [h3]; decide) (by rw [h3]; rfl) (by decide) ?_
    refine g_iload_n 1 dX12_spelled_69 rfl ?_
    refine g_bipush dX12_spelled_70 (101 : Int32) (by decide) ?_
    refine g_bipush dX12_spelled_72 (110 : Int32) (by decide) ?_
    refine g_bipush dX12_spelled_74 (100 : Int32) (by decide) ?_
    refine g_iconst dX12_spelled_76 (0 : Int32) (by decide) ?_
    refine g_iconst dX12_spelled_77 (0 : Int32) (by decide) ?_
    refine g_iconst dX12_spelled_78 (0 : Int32) (by decide) ?_
    obtain ⟨h4, hp⟩ := hp
    refine g_callS (rest := []) s_X12_290 rfl (c_X12_pick (E := E) (d := d - 1)   (by omega) x1 (101 : Int32) (110 : Int32) (100 : Int32) (0 : Int32) (0 : Int32) (0 : Int32) v h4) rfl rfl (Nat.le_of_ble_eq_true rfl) (by omega) (by decide) (by decide) dX12_spelled_79 (adV ?_) axN
    exact g_iret rfl dX12_spelled_82 hQ
  have hQ := qn (P := gqI Q v) h3 hQ
  have hp := hp.2 h3
  by_cases h5 : x0 = 2
  · have hQ := qp (P := gqI Q v) h5 hQ
    have hp := hp.1 h5
    refine g_tableIn 83 dX12_spelled_1 (by rw [h5]; decide) (by rw [h5]; decide) (by rw [h5]; rfl) (by decide) ?_
    refine g_iload_n 1 dX12_spelled_83 rfl ?_
    refine g_bipush dX12_spelled_84 (116 : Int32) (by decide) ?_
    refine g_bipush dX12_spelled_86 (114 : Int32) (by decide) ?_
    refine g_bipush dX12_spelled_88 (101 : Int32) (by decide) ?_
    refine g_bipush dX12_spelled_90 (97 : Int32) (by decide) ?_
    refine g_bipush dX12_spelled_92 (116 : Int32) (by decide) ?_
    refine g_bipush dX12_spelled_94 (121 : Int32) (by decide) ?_
    obtain ⟨h6, hp⟩ := hp
    refine g_callS (rest := []) s_X12_290 rfl (c_X12_pick (E := E) (d := d - 1)   (by omega) x1 (116 : Int32) (114 : Int32) (101 : Int32) (97 : Int32) (116 : Int32) (121 : Int32) v h6) rfl rfl (Nat.le_of_ble_eq_true rfl) (by omega) (by decide) (by decide) dX12_spelled_96 (adV ?_) axN
    exact g_iret rfl dX12_spelled_99 hQ
  have hQ := qn (P := gqI Q v) h5 hQ
  have hp := hp.2 h5
  by_cases h7 : x0 = 3
  · have hQ := qp (P := gqI Q v) h7 hQ
    have hp := hp.1 h7
    refine g_tableIn 100 dX12_spelled_1 (by rw [h7]; decide) (by rw [h7]; decide) (by rw [h7]; rfl) (by decide) ?_
    refine g_iload_n 1 dX12_spelled_100 rfl ?_
    refine g_bipush dX12_spelled_101 (118 : Int32) (by decide) ?_
    refine g_bipush dX12_spelled_103 (111 : Int32) (by decide) ?_
    refine g_bipush dX12_spelled_105 (105 : Int32) (by decide) ?_
    refine g_bipush dX12_spelled_107 (100 : Int32) (by decide) ?_
    refine g_iconst dX12_spelled_109 (0 : Int32) (by decide) ?_
    refine g_iconst dX12_spelled_110 (0 : Int32) (by decide) ?_
    obtain ⟨h8, hp⟩ := hp
    refine g_callS (rest := []) s_X12_290 rfl (c_X12_pick (E := E) (d := d - 1)   (by omega) x1 (118 : Int32) (111 : Int32) (105 : Int32) (100 : Int32) (0 : Int32) (0 : Int32) v h8) rfl rfl (Nat.le_of_ble_eq_true rfl) (by omega) (by decide) (by decide) dX12_spelled_111 (adV ?_) axN
    exact g_iret rfl dX12_spelled_114 hQ
  have hQ := qn (P := gqI Q v) h7 hQ
  have hp := hp.2 h7
  by_cases h9 : x0 = 4
  · have hQ := qp (P := gqI Q v) h9 hQ
    have hp := hp.1 h9
    refine g_tableIn 115 dX12_spelled_1 (by rw [h9]; decide) (by rw [h9]; decide) (by rw [h9]; rfl) (by decide) ?_
    refine g_iload_n 1 dX12_spelled_115 rfl ?_
    refine g_bipush dX12_spelled_116 (99 : Int32) (by decide) ?_
    refine g_bipush dX12_spelled_118 (108 : Int32) (by decide) ?_
    refine g_bipush dX12_spelled_120 (97 : Int32) (by decide) ?_
    refine g_bipush dX12_spelled_122 (105 : Int32) (by decide) ?_
    refine g_bipush dX12_spelled_124 (109 : Int32) (by decide) ?_
    refine g_iconst dX12_spelled_126 (0 : Int32) (by decide) ?_
    obtain ⟨h10, hp⟩ := hp
    refine g_callS (rest := []) s_X12_290 rfl (c_X12_pick (E := E) (d := d - 1)   (by omega) x1 (99 : Int32) (108 : Int32) (97 : Int32) (105 : Int32) (109 : Int32) (0 : Int32) v h10) rfl rfl (Nat.le_of_ble_eq_true rfl) (by omega) (by decide) (by decide) dX12_spelled_127 (adV ?_) axN
    exact g_iret rfl dX12_spelled_130 hQ
  have hQ := qn (P := gqI Q v) h9 hQ
  have hp := hp.2 h9
  by_cases h11 : x0 = 5
  · have hQ := qp (P := gqI Q v) h11 hQ
    have hp := hp.1 h11
    refine g_tableIn 131 dX12_spelled_1 (by rw [h11]; decide) (by rw [h11]; decide) (by rw [h11]; rfl) (by decide) ?_
    refine g_iload_n 1 dX12_spelled_131 rfl ?_
    refine g_bipush dX12_spelled_132 (112 : Int32) (by decide) ?_
    refine g_bipush dX12_spelled_134 (97 : Int32) (by decide) ?_
    refine g_bipush dX12_spelled_136 (121 : Int32) (by decide) ?_
    refine g_iconst dX12_spelled_138 (0 : Int32) (by decide) ?_
    refine g_iconst dX12_spelled_139 (0 : Int32) (by decide) ?_
    refine g_iconst dX12_spelled_140 (0 : Int32) (by decide) ?_
    obtain ⟨h12, hp⟩ := hp
    refine g_callS (rest := []) s_X12_290 rfl (c_X12_pick (E := E) (d := d - 1)   (by omega) x1 (112 : Int32) (97 : Int32) (121 : Int32) (0 : Int32) (0 : Int32) (0 : Int32) v h12) rfl rfl (Nat.le_of_ble_eq_true rfl) (by omega) (by decide) (by decide) dX12_spelled_141 (adV ?_) axN
    exact g_iret rfl dX12_spelled_144 hQ
  have hQ := qn (P := gqI Q v) h11 hQ
  have hp := hp.2 h11
  by_cases h13 : x0 = 6
  · have hQ := qp (P := gqI Q v) h13 hQ
    have hp := hp.1 h13
    refine g_tableIn 145 dX12_spelled_1 (by rw [h13]; decide) (by rw [h13]; decide) (by rw [h13]; rfl) (by decide) ?_
    refine g_iload_n 1 dX12_spelled_145 rfl ?_
    refine g_bipush dX12_spelled_146 (99 : Int32) (by decide) ?_
    refine g_bipush dX12_spelled_148 (108 : Int32) (by decide) ?_
    refine g_bipush dX12_spelled_150 (111 : Int32) (by decide) ?_
    refine g_bipush dX12_spelled_152 (115 : Int32) (by decide) ?_
    refine g_bipush dX12_spelled_154 (101 : Int32) (by decide) ?_
    refine g_iconst dX12_spelled_156 (0 : Int32) (by decide) ?_
    obtain ⟨h14, hp⟩ := hp
    refine g_callS (rest := []) s_X12_290 rfl (c_X12_pick (E := E) (d := d - 1)   (by omega) x1 (99 : Int32) (108 : Int32) (111 : Int32) (115 : Int32) (101 : Int32) (0 : Int32) v h14) rfl rfl (Nat.le_of_ble_eq_true rfl) (by omega) (by decide) (by decide) dX12_spelled_157 (adV ?_) axN
    exact g_iret rfl dX12_spelled_160 hQ
  have hQ := qn (P := gqI Q v) h13 hQ
  have hp := hp.2 h13
  by_cases h15 : x0 = 7
  · have hQ := qp (P := gqI Q v) h15 hQ
    have hp := hp.1 h15
    refine g_tableIn 161 dX12_spelled_1 (by rw [h15]; decide) (by rw [h15]; decide) (by rw [h15]; rfl) (by decide) ?_
    refine g_iload_n 1 dX12_spelled_161 rfl ?_
    refine g_bipush dX12_spelled_162 (119 : Int32) (by decide) ?_
    refine g_bipush dX12_spelled_164 (97 : Int32) (by decide) ?_
    refine g_bipush dX12_spelled_166 (105 : Int32) (by decide) ?_
    refine g_bipush dX12_spelled_168 (118 : Int32) (by decide) ?_
    refine g_bipush dX12_spelled_170 (101 : Int32) (by decide) ?_
    refine g_iconst dX12_spelled_172 (0 : Int32) (by decide) ?_
    obtain ⟨h16, hp⟩ := hp
    refine g_callS (rest := []) s_X12_290 rfl (c_X12_pick (E := E) (d := d - 1)   (by omega) x1 (119 : Int32) (97 : Int32) (105 : Int32) (118 : Int32) (101 : Int32) (0 : Int32) v h16) rfl rfl (Nat.le_of_ble_eq_true rfl) (by omega) (by decide) (by decide) dX12_spelled_173 (adV ?_) axN
    exact g_iret rfl dX12_spelled_176 hQ
  have hQ := qn (P := gqI Q v) h15 hQ
  have hp := hp.2 h15
  by_cases h17 : x0 = 8
  · have hQ := qp (P := gqI Q v) h17 hQ
    have hp := hp.1 h17
    refine g_tableIn 177 dX12_spelled_1 (by rw [h17]; decide) (by rw [h17]; decide) (by rw [h17]; rfl) (by decide) ?_
    refine g_iload_n 1 dX12_spelled_177 rfl ?_
    refine g_bipush dX12_spelled_178 (111 : Int32) (by decide) ?_
    refine g_bipush dX12_spelled_180 (102 : Int32) (by decide) ?_
    refine g_bipush dX12_spelled_182 (102 : Int32) (by decide) ?_
    refine g_bipush dX12_spelled_184 (101 : Int32) (by decide) ?_
    refine g_bipush dX12_spelled_186 (114 : Int32) (by decide) ?_
    refine g_iconst dX12_spelled_188 (0 : Int32) (by decide) ?_
    obtain ⟨h18, hp⟩ := hp
    refine g_callS (rest := []) s_X12_290 rfl (c_X12_pick (E := E) (d := d - 1)   (by omega) x1 (111 : Int32) (102 : Int32) (102 : Int32) (101 : Int32) (114 : Int32) (0 : Int32) v h18) rfl rfl (Nat.le_of_ble_eq_true rfl) (by omega) (by decide) (by decide) dX12_spelled_189 (adV ?_) axN
    exact g_iret rfl dX12_spelled_192 hQ
  have hQ := qn (P := gqI Q v) h17 hQ
  have hp := hp.2 h17
  refine g_tableOut 193 dX12_spelled_1 (gsw_out [0, 1, 2, 3, 4, 5, 6, 7, 8] x0 (by decide) ⟨h1, h3, h5, h7, h9, h11, h13, h15, h17, trivial⟩) (by decide) ?_
  refine g_iload_n 1 dX12_spelled_193 rfl ?_
  refine g_bipush dX12_spelled_194 (119 : Int32) (by decide) ?_
  refine g_bipush dX12_spelled_196 (97 : Int32) (by decide) ?_
  refine g_bipush dX12_spelled_198 (105 : Int32) (by decide) ?_
  refine g_bipush dX12_spelled_200 (116 : Int32) (by decide) ?_
  refine g_iconst dX12_spelled_202 (0 : Int32) (by decide) ?_
  refine g_iconst dX12_spelled_203 (0 : Int32) (by decide) ?_
  obtain ⟨h19, hp⟩ := hp
  refine g_callS (rest := []) s_X12_290 rfl (c_X12_pick (E := E) (d := d - 1)   (by omega) x1 (119 : Int32) (97 : Int32) (105 : Int32) (116 : Int32) (0 : Int32) (0 : Int32) v h19) rfl rfl (Nat.le_of_ble_eq_true rfl) (by omega) (by decide) (by decide) dX12_spelled_204 (adV ?_) axN
  exact g_iret rfl dX12_spelled_207 hQ
def f_X12_spelled  (x0 : Int32) (x1 : Int32) (v : gV) : Int32 := f_X12_spelled_0 x0 x1 v
def p_X12_spelled  (x0 : Int32) (x1 : Int32) (v : gV) : Prop := p_X12_spelled_0 x0 x1 v
theorem c_X12_spelled {E : gE} {d : Nat}   (hd : 1 ≤ d) (x0 : Int32) (x1 : Int32) (v : gV) (hp : p_X12_spelled x0 x1 v) : CT E m_X12_spelled d 0 0 [.int x0, .int x1] (rS v) (Cq (.inl (some (.int (f_X12_spelled x0 x1 v)))) v) := CT.of ok_X12_spelled rfl (Nat.le_of_ble_eq_true rfl) (w_X12_spelled_0  hd x0 x1 v hp ⟨rfl, rfl⟩)
def f_X12_word_110   (v : gV) : Int32 × gV := ((0 : Int32), v)
def p_X12_word_110   (v : gV) : Prop := True
set_option maxHeartbeats 4000000 in
set_option maxRecDepth 100000 in
theorem w_X12_word_110 {E : gE} {d : Nat} {Q : gO → gS → Prop}   (hd : 2 ≤ d)  (v : gV) (hp : p_X12_word_110    v) (hQ : gqIV Q (f_X12_word_110   v)) : gG E m_X12_word d Q 0 0 (rS v) 110 [] [] := by
  refine g_iconst dX12_word_110 (0 : Int32) (by decide) ?_
  exact g_iret rfl dX12_word_111 hQ
def f_X12_word_105   (v : gV) : Int32 × gV := f_X12_word_110   (vM v 559 20 (1 : Int32))
def p_X12_word_105   (v : gV) : Prop := p_X12_word_110    (vM v 559 20 (1 : Int32))
set_option maxHeartbeats 4000000 in
set_option maxRecDepth 100000 in
theorem w_X12_word_105 {E : gE} {d : Nat} {Q : gO → gS → Prop}   (hd : 2 ≤ d)  (v : gV) (hp : p_X12_word_105    v) (hQ : gqIV Q (f_X12_word_105   v)) : gG E m_X12_word d Q 0 0 (rS v) 105 [(0, .ref (gX E + 559))] [] := by
  refine g_aload_n 0 dX12_word_105 rfl ?_
  refine g_iconst dX12_word_106 (1 : Int32) (by decide) ?_
  refine r_put pf_X12_72_X12 rfl (by decide : kd 559 = (0, 9)) (by decide) (by decide) rfl (show 559 < 572 by decide) rfl rfl dX12_word_107 ?_
  refine g_lv (lv' := []) [] rfl ?_
  exact w_X12_word_110  hd     (vM v 559 20 (1 : Int32)) hp hQ
def f_X12_word_88  (K4 : Int32 → Int32 → gV → Int32 × gV)  (x2 : Int32) (s0 : Int32) (v : gV) : Int32 × gV := K4 s0 (x2 + 1) v
def p_X12_word_88  (K4 : Int32 → Int32 → gV → Int32 × gV)  (PK4 : Int32 → Int32 → gV → Prop)  (x2 : Int32) (s0 : Int32) (v : gV) : Prop := PK4 s0 (x2 + 1) v
set_option maxHeartbeats 4000000 in
set_option maxRecDepth 100000 in
theorem w_X12_word_88 {E : gE} {d : Nat} {Q : gO → gS → Prop}   (hd : 2 ≤ d) (K4 : Int32 → Int32 → gV → Int32 × gV)  (PK4 : Int32 → Int32 → gV → Prop)  (hK4 : ∀ (x1 : Int32) (x2 : Int32) (v : gV), PK4 x1 x2 v → gqIV Q (K4 x1 x2 v) → gG E m_X12_word d Q 0 0 (rS v) 4 [(0, .ref (gX E + 559)), (1, .int x1), (2, .int x2)] [])  (x2 : Int32) (s0 : Int32) (v : gV) (hp : p_X12_word_88 K4 PK4 x2 s0 v) (hQ : gqIV Q (f_X12_word_88 K4 x2 s0 v)) : gG E m_X12_word d Q 0 0 (rS v) 88 [(0, .ref (gX E + 559)), (2, .int x2)] [.int s0] := by
  refine g_istore_n [(1, .int s0), (0, .ref (gX E + 559)), (2, .int x2)] dX12_word_88 rfl (by decide) rfl ?_
  refine g_iinc 2 (x2 + 1) [(2, .int (x2 + 1)), (1, .int s0), (0, .ref (gX E + 559))] dX12_word_89 rfl rfl (by decide) rfl ?_
  refine g_goto 4 dX12_word_92 (by decide) ?_
  refine g_lv (lv' := [(0, .ref (gX E + 559)), (1, .int s0), (2, .int (x2 + 1))]) [2, 1, 0] rfl ?_
  exact hK4 s0 (x2 + 1) v hp hQ
def f_X12_word_76  (x2 : Int32) (v : gV) : Int32 × gV := (x2, v)
def p_X12_word_76  (x2 : Int32) (v : gV) : Prop := True
set_option maxHeartbeats 4000000 in
set_option maxRecDepth 100000 in
theorem w_X12_word_76 {E : gE} {d : Nat} {Q : gO → gS → Prop}   (hd : 2 ≤ d) (x2 : Int32) (v : gV) (hp : p_X12_word_76   x2 v) (hQ : gqIV Q (f_X12_word_76  x2 v)) : gG E m_X12_word d Q 0 0 (rS v) 76 [(2, .int x2)] [] := by
  refine g_iload_n 0 dX12_word_76 rfl ?_
  exact g_iret rfl dX12_word_77 hQ
def f_X12_word_58  (K4 : Int32 → Int32 → gV → Int32 × gV)  (x1 : Int32) (x2 : Int32) (x3 : Int32) (v : gV) : Int32 × gV := if (f_X12_spelled x2 x3 v) = 0 then (f_X12_word_76  x2 (vM v 559 18 ((v.1 559 18) + x3))) else (if x3 ≤ x1 then (f_X12_word_88 K4 x2 x1 v) else (f_X12_word_88 K4 x2 x3 v))
def p_X12_word_58  (K4 : Int32 → Int32 → gV → Int32 × gV)  (PK4 : Int32 → Int32 → gV → Prop)  (x1 : Int32) (x2 : Int32) (x3 : Int32) (v : gV) : Prop := (p_X12_spelled x2 x3 v) ∧ ((((f_X12_spelled x2 x3 v) = 0) → (p_X12_word_76   x2 (vM v 559 18 ((v.1 559 18) + x3)))) ∧ (¬ ((f_X12_spelled x2 x3 v) = 0) → (((x3 ≤ x1) → (p_X12_word_88 K4 PK4 x2 x1 v)) ∧ (¬ (x3 ≤ x1) → (p_X12_word_88 K4 PK4 x2 x3 v)))))
set_option maxHeartbeats 4000000 in
set_option maxRecDepth 100000 in
theorem w_X12_word_58 {E : gE} {d : Nat} {Q : gO → gS → Prop}   (hd : 2 ≤ d) (K4 : Int32 → Int32 → gV → Int32 × gV)  (PK4 : Int32 → Int32 → gV → Prop)  (hK4 : ∀ (x1 : Int32) (x2 : Int32) (v : gV), PK4 x1 x2 v → gqIV Q (K4 x1 x2 v) → gG E m_X12_word d Q 0 0 (rS v) 4 [(0, .ref (gX E + 559)), (1, .int x1), (2, .int x2)] [])  (x1 : Int32) (x2 : Int32) (x3 : Int32) (v : gV) (hp : p_X12_word_58 K4 PK4 x1 x2 x3 v) (hQ : gqIV Q (f_X12_word_58 K4 x1 x2 x3 v)) : gG E m_X12_word d Q 0 0 (rS v) 58 [(0, .ref (gX E + 559)), (1, .int x1), (2, .int x2), (3, .int x3)] [] := by
  refine g_iload_n 2 dX12_word_58 rfl ?_
  refine g_iload_n 3 dX12_word_59 rfl ?_
  obtain ⟨h4, hp⟩ := hp
  refine g_callS (rest := []) s_X12_294 rfl (c_X12_spelled (E := E) (d := d - 1)   (by omega) x2 x3 v h4) rfl rfl (Nat.le_of_ble_eq_true rfl) (by omega) (by decide) (by decide) dX12_word_60 (adV ?_) axN
  refine g_if_ne 78 dX12_word_63 (by decide) (fun h5 => ?_) (fun h5 => ?_)
  · have hQ := qn (P := gqIV Q) h5 hQ
    have hp := hp.2 h5
    refine g_iload_n 3 dX12_word_78 rfl ?_
    refine g_iload_n 1 dX12_word_79 rfl ?_
    refine g_icmp_le 87 dX12_word_80 (by decide) (fun h6 => ?_) (fun h6 => ?_)
    · have hQ := qp (P := gqIV Q) h6 hQ
      have hp := hp.1 h6
      refine g_iload_n 1 dX12_word_87 rfl ?_
      refine g_lv (lv' := [(0, .ref (gX E + 559)), (2, .int x2)]) [0, 2] rfl ?_
      exact w_X12_word_88  hd K4 PK4 hK4 x2 x1 v hp hQ
    · have hQ := qn (P := gqIV Q) h6 hQ
      have hp := hp.2 h6
      refine g_iload_n 3 dX12_word_83 rfl ?_
      refine g_goto 88 dX12_word_84 (by decide) ?_
      refine g_lv (lv' := [(0, .ref (gX E + 559)), (2, .int x2)]) [0, 2] rfl ?_
      exact w_X12_word_88  hd K4 PK4 hK4 x2 x3 v hp hQ
  · have hQ := qp (P := gqIV Q) h5 hQ
    have hp := hp.1 h5
    refine g_aload_n 0 dX12_word_66 rfl ?_
    refine g_dup dX12_word_67 rfl ?_
    refine r_get (.int (v.1 559 18)) f_X12_66_X12 rfl (by decide : kd 559 = (0, 9)) (show 559 < 572 by decide) dX12_word_68 (fun _ => rfl) ?_
    refine g_iload_n 3 dX12_word_71 rfl ?_
    refine g_iadd dX12_word_72 ?_
    refine r_put pf_X12_66_X12 rfl (by decide : kd 559 = (0, 9)) (by decide) (by decide) rfl (show 559 < 572 by decide) rfl rfl dX12_word_73 ?_
    refine g_lv (lv' := [(2, .int x2)]) [2] rfl ?_
    exact w_X12_word_76  hd    x2 (vM v 559 18 ((v.1 559 18) + x3)) hp hQ
def f_X12_word_12  (K4 : Int32 → Int32 → gV → Int32 × gV)  : Nat → Int32 → Int32 → Int32 → gV → Int32 × gV
  | 0, _, _, _, v => (0, v)
  | n + 1, x1, x2, x3, v => if (f_X12_spelled x2 x3 v) ≤ 0 then (f_X12_word_58 K4 x1 x2 x3 v) else (if (v.1 559 17) ≤ ((v.1 559 18) + x3) then (f_X12_word_58 K4 x1 x2 x3 v) else (if (v.1 567 ((v.1 559 18) + x3).toNatClampNeg) = (f_X12_spelled x2 x3 v) then (f_X12_word_12 K4 n x1 x2 (x3 + 1) v) else (f_X12_word_58 K4 x1 x2 x3 v)))
def p_X12_word_12  (K4 : Int32 → Int32 → gV → Int32 × gV)  (PK4 : Int32 → Int32 → gV → Prop)  : Nat → Int32 → Int32 → Int32 → gV → Prop
  | 0, _, _, _, _ => False
  | n + 1, x1, x2, x3, v => (p_X12_spelled x2 x3 v) ∧ ((((f_X12_spelled x2 x3 v) ≤ 0) → (p_X12_word_58 K4 PK4 x1 x2 x3 v)) ∧ (¬ ((f_X12_spelled x2 x3 v) ≤ 0) → ((((v.1 559 17) ≤ ((v.1 559 18) + x3)) → (p_X12_word_58 K4 PK4 x1 x2 x3 v)) ∧ (¬ ((v.1 559 17) ≤ ((v.1 559 18) + x3)) → ((vp_in ((v.1 559 18) + x3) 60) ∧ ((p_X12_spelled x2 x3 v) ∧ ((((v.1 567 ((v.1 559 18) + x3).toNatClampNeg) = (f_X12_spelled x2 x3 v)) → (p_X12_word_12 K4 PK4 n x1 x2 (x3 + 1) v)) ∧ (¬ ((v.1 567 ((v.1 559 18) + x3).toNatClampNeg) = (f_X12_spelled x2 x3 v)) → (p_X12_word_58 K4 PK4 x1 x2 x3 v)))))))))
set_option maxHeartbeats 4000000 in
set_option maxRecDepth 100000 in
theorem w_X12_word_12 {E : gE} {d : Nat} {Q : gO → gS → Prop}   (hd : 2 ≤ d) (K4 : Int32 → Int32 → gV → Int32 × gV)  (PK4 : Int32 → Int32 → gV → Prop)  (hK4 : ∀ (x1 : Int32) (x2 : Int32) (v : gV), PK4 x1 x2 v → gqIV Q (K4 x1 x2 v) → gG E m_X12_word d Q 0 0 (rS v) 4 [(0, .ref (gX E + 559)), (1, .int x1), (2, .int x2)] [])  : ∀ (n : Nat) (x1 : Int32) (x2 : Int32) (x3 : Int32) (v : gV), p_X12_word_12 K4 PK4 n x1 x2 x3 v → gqIV Q (f_X12_word_12 K4 n x1 x2 x3 v) → gG E m_X12_word d Q 0 0 (rS v) 12 [(0, .ref (gX E + 559)), (1, .int x1), (2, .int x2), (3, .int x3)] [] := by
  intro n
  induction n with
  | zero => intro x1 x2 x3 v hp; exact hp.elim
  | succ n ih =>
    intro x1 x2 x3 v hp hQ
    refine g_iload_n 2 dX12_word_12 rfl ?_
    refine g_iload_n 3 dX12_word_13 rfl ?_
    obtain ⟨h2, hp⟩ := hp
    refine g_callS (rest := []) s_X12_294 rfl (c_X12_spelled (E := E) (d := d - 1)   (by omega) x2 x3 v h2) rfl rfl (Nat.le_of_ble_eq_true rfl) (by omega) (by decide) (by decide) dX12_word_14 (adV ?_) axN
    refine g_if_le 58 dX12_word_17 (by decide) (fun h3 => ?_) (fun h3 => ?_)
    · have hQ := qp (P := gqIV Q) h3 hQ
      have hp := hp.1 h3
      exact w_X12_word_58  hd K4 PK4 hK4 x1 x2 x3 v hp hQ
    · have hQ := qn (P := gqIV Q) h3 hQ
      have hp := hp.2 h3
      refine g_aload_n 0 dX12_word_20 rfl ?_
      refine r_get (.int (v.1 559 18)) f_X12_66_X12 rfl (by decide : kd 559 = (0, 9)) (show 559 < 572 by decide) dX12_word_21 (fun _ => rfl) ?_
      refine g_iload_n 3 dX12_word_24 rfl ?_
      refine g_iadd dX12_word_25 ?_
      refine g_aload_n 0 dX12_word_26 rfl ?_
      refine r_get (.int (v.1 559 17)) f_X12_63_X12 rfl (by decide : kd 559 = (0, 9)) (show 559 < 572 by decide) dX12_word_27 (fun _ => rfl) ?_
      refine g_icmp_ge 58 dX12_word_30 (by decide) (fun h7 => ?_) (fun h7 => ?_)
      · have hQ := qp (P := gqIV Q) h7 hQ
        have hp := hp.1 h7
        exact w_X12_word_58  hd K4 PK4 hK4 x1 x2 x3 v hp hQ
      · have hQ := qn (P := gqIV Q) h7 hQ
        have hp := hp.2 h7
        refine g_aload_n 0 dX12_word_33 rfl ?_
        refine r_get (.ref (gX E + 567)) f_X12_51_X12 rfl (by decide : kd 559 = (0, 9)) (show 559 < 572 by decide) dX12_word_34 (fun _ => rfl) ?_
        refine g_aload_n 0 dX12_word_37 rfl ?_
        refine r_get (.int (v.1 559 18)) f_X12_66_X12 rfl (by decide : kd 559 = (0, 9)) (show 559 < 572 by decide) dX12_word_38 (fun _ => rfl) ?_
        refine g_iload_n 3 dX12_word_41 rfl ?_
        refine g_iadd dX12_word_42 ?_
        obtain ⟨h8, hp⟩ := hp
        refine g_iald (by decide : kd 567 = (1, 60)) (show 567 < 572 by decide) h8 dX12_word_43 ?_
        refine g_iload_n 2 dX12_word_44 rfl ?_
        refine g_iload_n 3 dX12_word_45 rfl ?_
        obtain ⟨h9, hp⟩ := hp
        refine g_callS (rest := [.int (v.1 567 ((v.1 559 18) + x3).toNatClampNeg)]) s_X12_294 rfl (c_X12_spelled (E := E) (d := d - 1)   (by omega) x2 x3 v h9) rfl rfl (Nat.le_of_ble_eq_true rfl) (by omega) (by decide) (by decide) dX12_word_46 (adV ?_) axN
        refine g_icmp_ne 58 dX12_word_49 (by decide) (fun h10 => ?_) (fun h10 => ?_)
        · have hQ := qn (P := gqIV Q) h10 hQ
          have hp := hp.2 h10
          exact w_X12_word_58  hd K4 PK4 hK4 x1 x2 x3 v hp hQ
        · have hQ := qp (P := gqIV Q) h10 hQ
          have hp := hp.1 h10
          refine g_iinc 3 (x3 + 1) [(3, .int (x3 + 1)), (0, .ref (gX E + 559)), (1, .int x1), (2, .int x2)] dX12_word_52 rfl rfl (by decide) rfl ?_
          refine g_goto 12 dX12_word_55 (by decide) ?_
          refine g_lv (lv' := [(0, .ref (gX E + 559)), (1, .int x1), (2, .int x2), (3, .int (x3 + 1))]) [1, 2, 3, 0] rfl ?_
          exact ih x1 x2 (x3 + 1) v hp hQ
def f_X12_word_4  : Nat → Int32 → Int32 → gV → Int32 × gV
  | 0, _, _, v => (0, v)
  | n + 1, x1, x2, v => if (10 : Int32) ≤ x2 then (f_X12_word_105   (vM v 559 18 ((v.1 559 18) + x1))) else (f_X12_word_12 (fun x1 x2 v => f_X12_word_4  n x1 x2 v) 5000 x1 x2 (0 : Int32) v)
def p_X12_word_4  : Nat → Int32 → Int32 → gV → Prop
  | 0, _, _, _ => False
  | n + 1, x1, x2, v => (((10 : Int32) ≤ x2) → (p_X12_word_105    (vM v 559 18 ((v.1 559 18) + x1)))) ∧ (¬ ((10 : Int32) ≤ x2) → (p_X12_word_12 (fun x1 x2 v => f_X12_word_4  n x1 x2 v) (fun x1 x2 v => p_X12_word_4   n x1 x2 v) 5000 x1 x2 (0 : Int32) v))
set_option maxHeartbeats 4000000 in
set_option maxRecDepth 100000 in
theorem w_X12_word_4 {E : gE} {d : Nat} {Q : gO → gS → Prop}   (hd : 2 ≤ d) : ∀ (n : Nat) (x1 : Int32) (x2 : Int32) (v : gV), p_X12_word_4   n x1 x2 v → gqIV Q (f_X12_word_4  n x1 x2 v) → gG E m_X12_word d Q 0 0 (rS v) 4 [(0, .ref (gX E + 559)), (1, .int x1), (2, .int x2)] [] := by
  intro n
  induction n with
  | zero => intro x1 x2 v hp; exact hp.elim
  | succ n ih =>
    intro x1 x2 v hp hQ
    refine g_iload_n 2 dX12_word_4 rfl ?_
    refine g_bipush dX12_word_5 (10 : Int32) (by decide) ?_
    refine g_icmp_ge 95 dX12_word_7 (by decide) (fun h1 => ?_) (fun h1 => ?_)
    · have hQ := qp (P := gqIV Q) h1 hQ
      have hp := hp.1 h1
      refine g_aload_n 0 dX12_word_95 rfl ?_
      refine g_dup dX12_word_96 rfl ?_
      refine r_get (.int (v.1 559 18)) f_X12_66_X12 rfl (by decide : kd 559 = (0, 9)) (show 559 < 572 by decide) dX12_word_97 (fun _ => rfl) ?_
      refine g_iload_n 1 dX12_word_100 rfl ?_
      refine g_iadd dX12_word_101 ?_
      refine r_put pf_X12_66_X12 rfl (by decide : kd 559 = (0, 9)) (by decide) (by decide) rfl (show 559 < 572 by decide) rfl rfl dX12_word_102 ?_
      refine g_lv (lv' := [(0, .ref (gX E + 559))]) [0] rfl ?_
      exact w_X12_word_105  hd     (vM v 559 18 ((v.1 559 18) + x1)) hp hQ
    · have hQ := qn (P := gqIV Q) h1 hQ
      have hp := hp.2 h1
      refine g_iconst dX12_word_10 (0 : Int32) (by decide) ?_
      refine g_istore_n [(3, .int ((0 : Int32))), (0, .ref (gX E + 559)), (1, .int x1), (2, .int x2)] dX12_word_11 rfl (by decide) rfl ?_
      refine g_lv (lv' := [(0, .ref (gX E + 559)), (1, .int x1), (2, .int x2), (3, .int ((0 : Int32)))]) [1, 2, 3, 0] rfl ?_
      exact w_X12_word_12  hd (fun x1 x2 v => f_X12_word_4  n x1 x2 v) (fun x1 x2 v => p_X12_word_4   n x1 x2 v) ih 5000 x1 x2 (0 : Int32) v hp hQ
def f_X12_word_0   (v : gV) : Int32 × gV := f_X12_word_4  5000 (0 : Int32) (0 : Int32) v
def p_X12_word_0   (v : gV) : Prop := p_X12_word_4   5000 (0 : Int32) (0 : Int32) v
set_option maxHeartbeats 4000000 in
set_option maxRecDepth 100000 in
theorem w_X12_word_0 {E : gE} {d : Nat} {Q : gO → gS → Prop}   (hd : 2 ≤ d)  (v : gV) (hp : p_X12_word_0    v) (hQ : gqIV Q (f_X12_word_0   v)) : gG E m_X12_word d Q 0 0 (rS v) 0 [(0, .ref (gX E + 559))] [] := by
  refine g_iconst dX12_word_0 (0 : Int32) (by decide) ?_
  refine g_istore_n [(1, .int ((0 : Int32))), (0, .ref (gX E + 559))] dX12_word_1 rfl (by decide) rfl ?_
  refine g_iconst dX12_word_2 (0 : Int32) (by decide) ?_
  refine g_istore_n [(2, .int ((0 : Int32))), (1, .int ((0 : Int32))), (0, .ref (gX E + 559))] dX12_word_3 rfl (by decide) rfl ?_
  refine g_lv (lv' := [(0, .ref (gX E + 559)), (1, .int ((0 : Int32))), (2, .int ((0 : Int32)))]) [2, 1, 0] rfl ?_
  exact w_X12_word_4  hd    5000 (0 : Int32) (0 : Int32) v hp hQ
def f_X12_word   (v : gV) : Int32 × gV := f_X12_word_0  v
def p_X12_word   (v : gV) : Prop := p_X12_word_0  v
theorem c_X12_word {E : gE} {d : Nat}   (hd : 2 ≤ d)  (v : gV) (hp : p_X12_word  v) : CT E m_X12_word d 0 0 [.ref (gX E + 559)] (rS v) (Cq (.inl (some (.int ((f_X12_word  v).1)))) (f_X12_word  v).2) := CT.of ok_X12_word rfl (Nat.le_of_ble_eq_true rfl) (w_X12_word_0  hd  v hp ⟨rfl, rfl⟩)
def f_X12_put_14   (v : gV) : gV := v
def p_X12_put_14   (v : gV) : Prop := True
set_option maxHeartbeats 4000000 in
set_option maxRecDepth 100000 in
theorem w_X12_put_14 {E : gE} {d : Nat} {Q : gO → gS → Prop}   (hd : 0 ≤ d)  (v : gV) (hp : p_X12_put_14    v) (hQ : gqV Q (f_X12_put_14   v)) : gG E m_X12_put d Q 0 0 (rS v) 14 [] [] := by
  exact g_vret rfl dX12_put_14 hQ
def f_X12_put_0  (x1 : Int32) (x2 : Int32) (v : gV) : gV := f_X12_put_14   (vM v 569 (((4 : Int32) * (v.1 559 19)) + x1).toNatClampNeg x2)
def p_X12_put_0  (x1 : Int32) (x2 : Int32) (v : gV) : Prop := (vp_in (((4 : Int32) * (v.1 559 19)) + x1) 128) ∧ (p_X12_put_14    (vM v 569 (((4 : Int32) * (v.1 559 19)) + x1).toNatClampNeg x2))
set_option maxHeartbeats 4000000 in
set_option maxRecDepth 100000 in
theorem w_X12_put_0 {E : gE} {d : Nat} {Q : gO → gS → Prop}   (hd : 0 ≤ d) (x1 : Int32) (x2 : Int32) (v : gV) (hp : p_X12_put_0   x1 x2 v) (hQ : gqV Q (f_X12_put_0  x1 x2 v)) : gG E m_X12_put d Q 0 0 (rS v) 0 [(0, .ref (gX E + 559)), (1, .int x1), (2, .int x2)] [] := by
  refine g_aload_n 0 dX12_put_0 rfl ?_
  refine r_get (.ref (gX E + 569)) f_X12_57_X12 rfl (by decide : kd 559 = (0, 9)) (show 559 < 572 by decide) dX12_put_1 (fun _ => rfl) ?_
  refine g_iconst dX12_put_4 (4 : Int32) (by decide) ?_
  refine g_aload_n 0 dX12_put_5 rfl ?_
  refine r_get (.int (v.1 559 19)) f_X12_69_X12 rfl (by decide : kd 559 = (0, 9)) (show 559 < 572 by decide) dX12_put_6 (fun _ => rfl) ?_
  refine g_imul dX12_put_9 ?_
  refine g_iload_n 1 dX12_put_10 rfl ?_
  refine g_iadd dX12_put_11 ?_
  refine g_iload_n 2 dX12_put_12 rfl ?_
  obtain ⟨h1, hp⟩ := hp
  refine r_iast (by decide : kd 569 = (1, 128)) (show 569 < 572 by decide) h1 dX12_put_13 ?_
  refine g_lv (lv' := []) [] rfl ?_
  exact w_X12_put_14  hd     (vM v 569 (((4 : Int32) * (v.1 559 19)) + x1).toNatClampNeg x2) hp hQ
def f_X12_put  (x1 : Int32) (x2 : Int32) (v : gV) : gV := f_X12_put_0 x1 x2 v
def p_X12_put  (x1 : Int32) (x2 : Int32) (v : gV) : Prop := p_X12_put_0 x1 x2 v
theorem c_X12_put {E : gE} {d : Nat}   (hd : 0 ≤ d) (x1 : Int32) (x2 : Int32) (v : gV) (hp : p_X12_put x1 x2 v) : CT E m_X12_put d 0 0 [.ref (gX E + 559), .int x1, .int x2] (rS v) (Cq (.inl none) (f_X12_put x1 x2 v)) := CT.of ok_X12_put rfl (Nat.le_of_ble_eq_true rfl) (w_X12_put_0  hd x1 x2 v hp ⟨rfl, rfl⟩)
def f_X12_putBehind_15   (v : gV) : gV := v
def p_X12_putBehind_15   (v : gV) : Prop := True
set_option maxHeartbeats 4000000 in
set_option maxRecDepth 100000 in
theorem w_X12_putBehind_15 {E : gE} {d : Nat} {Q : gO → gS → Prop}   (hd : 2 ≤ d)  (v : gV) (hp : p_X12_putBehind_15    v) (hQ : gqV Q (f_X12_putBehind_15   v)) : gG E m_X12_putBehind d Q 0 0 (rS v) 15 [] [] := by
  exact g_vret rfl dX12_putBehind_15 hQ
def f_X12_putBehind_12  (s0 : Int32) (s1 : Int32) (v : gV) : gV := f_X12_putBehind_15   (f_X12_put s1 s0 v)
def p_X12_putBehind_12  (s0 : Int32) (s1 : Int32) (v : gV) : Prop := (p_X12_put s1 s0 v) ∧ (p_X12_putBehind_15    (f_X12_put s1 s0 v))
set_option maxHeartbeats 4000000 in
set_option maxRecDepth 100000 in
theorem w_X12_putBehind_12 {E : gE} {d : Nat} {Q : gO → gS → Prop}   (hd : 2 ≤ d) (s0 : Int32) (s1 : Int32) (v : gV) (hp : p_X12_putBehind_12   s0 s1 v) (hQ : gqV Q (f_X12_putBehind_12  s0 s1 v)) : gG E m_X12_putBehind d Q 0 0 (rS v) 12 [] [.int s0, .int s1, .ref (gX E + 559)] := by
  obtain ⟨h3, hp⟩ := hp
  refine g_callV (rest := []) s_X12_303_X12 rfl (c_X12_put (E := E) (d := d - 1)   (by omega) s1 s0 v h3) (by decide : kd 559 = (0, 9)) (show 559 < 572 by decide) rfl rfl (Nat.le_of_ble_eq_true rfl) (by omega) (by decide) (by decide) dX12_putBehind_12 (adN ?_) axN
  exact w_X12_putBehind_15  hd     (f_X12_put s1 s0 v) hp hQ
def f_X12_putBehind_5  (x2 : Int32) (x3 : Int32) (v : gV) : gV := f_X12_putBehind_12  ((f_X12_number x3 v).1) x2 (f_X12_number x3 v).2
def p_X12_putBehind_5  (x2 : Int32) (x3 : Int32) (v : gV) : Prop := (p_X12_number x3 v) ∧ (p_X12_putBehind_12   ((f_X12_number x3 v).1) x2 (f_X12_number x3 v).2)
set_option maxHeartbeats 4000000 in
set_option maxRecDepth 100000 in
theorem w_X12_putBehind_5 {E : gE} {d : Nat} {Q : gO → gS → Prop}   (hd : 2 ≤ d) (x2 : Int32) (x3 : Int32) (v : gV) (hp : p_X12_putBehind_5   x2 x3 v) (hQ : gqV Q (f_X12_putBehind_5  x2 x3 v)) : gG E m_X12_putBehind d Q 0 0 (rS v) 5 [(0, .ref (gX E + 559)), (2, .int x2), (3, .int x3)] [] := by
  refine g_aload_n 0 dX12_putBehind_5 rfl ?_
  refine g_iload_n 1 dX12_putBehind_6 rfl ?_
  refine g_aload_n 0 dX12_putBehind_7 rfl ?_
  refine g_iload_n 2 dX12_putBehind_8 rfl ?_
  obtain ⟨h2, hp⟩ := hp
  refine g_callV (rest := [.int x2, .ref (gX E + 559)]) s_X12_300_X12 rfl (c_X12_number (E := E) (d := d - 1)   (by omega) x3 v h2) (by decide : kd 559 = (0, 9)) (show 559 < 572 by decide) rfl rfl (Nat.le_of_ble_eq_true rfl) (by omega) (by decide) (by decide) dX12_putBehind_9 (adV ?_) axN
  refine g_lv (lv' := []) [] rfl ?_
  exact w_X12_putBehind_12  hd    ((f_X12_number x3 v).1) x2 (f_X12_number x3 v).2 hp hQ
def f_X12_putBehind_0  (x1 : Int32) (x2 : Int32) (x3 : Int32) (v : gV) : gV := f_X12_putBehind_5  x2 x3 (f_X12_expect x1 v)
def p_X12_putBehind_0  (x1 : Int32) (x2 : Int32) (x3 : Int32) (v : gV) : Prop := (p_X12_expect x1 v) ∧ (p_X12_putBehind_5   x2 x3 (f_X12_expect x1 v))
set_option maxHeartbeats 4000000 in
set_option maxRecDepth 100000 in
theorem w_X12_putBehind_0 {E : gE} {d : Nat} {Q : gO → gS → Prop}   (hd : 2 ≤ d) (x1 : Int32) (x2 : Int32) (x3 : Int32) (v : gV) (hp : p_X12_putBehind_0   x1 x2 x3 v) (hQ : gqV Q (f_X12_putBehind_0  x1 x2 x3 v)) : gG E m_X12_putBehind d Q 0 0 (rS v) 0 [(0, .ref (gX E + 559)), (1, .int x1), (2, .int x2), (3, .int x3)] [] := by
  refine g_aload_n 0 dX12_putBehind_0 rfl ?_
  refine g_iload_n 1 dX12_putBehind_1 rfl ?_
  obtain ⟨h1, hp⟩ := hp
  refine g_callV (rest := []) s_X12_297_X12 rfl (c_X12_expect (E := E) (d := d - 1)   (by omega) x1 v h1) (by decide : kd 559 = (0, 9)) (show 559 < 572 by decide) rfl rfl (Nat.le_of_ble_eq_true rfl) (by omega) (by decide) (by decide) dX12_putBehind_2 (adN ?_) axN
  refine g_lv (lv' := [(0, .ref (gX E + 559)), (2, .int x2), (3, .int x3)]) [0, 2, 3] rfl ?_
  exact w_X12_putBehind_5  hd    x2 x3 (f_X12_expect x1 v) hp hQ
def f_X12_putBehind  (x1 : Int32) (x2 : Int32) (x3 : Int32) (v : gV) : gV := f_X12_putBehind_0 x1 x2 x3 v
def p_X12_putBehind  (x1 : Int32) (x2 : Int32) (x3 : Int32) (v : gV) : Prop := p_X12_putBehind_0 x1 x2 x3 v
theorem c_X12_putBehind {E : gE} {d : Nat}   (hd : 2 ≤ d) (x1 : Int32) (x2 : Int32) (x3 : Int32) (v : gV) (hp : p_X12_putBehind x1 x2 x3 v) : CT E m_X12_putBehind d 0 0 [.ref (gX E + 559), .int x1, .int x2, .int x3] (rS v) (Cq (.inl none) (f_X12_putBehind x1 x2 x3 v)) := CT.of ok_X12_putBehind rfl (Nat.le_of_ble_eq_true rfl) (w_X12_putBehind_0  hd x1 x2 x3 v hp ⟨rfl, rfl⟩)
def f_X12_readsRest_150   (v : gV) : gV := v
def p_X12_readsRest_150   (v : gV) : Prop := True
set_option maxHeartbeats 4000000 in
set_option maxRecDepth 100000 in
theorem w_X12_readsRest_150 {E : gE} {d : Nat} {Q : gO → gS → Prop}   (hd : 3 ≤ d)  (v : gV) (hp : p_X12_readsRest_150    v) (hQ : gqV Q (f_X12_readsRest_150   v)) : gG E m_X12_readsRest d Q 0 0 (rS v) 150 [] [] := by
  exact g_vret rfl dX12_readsRest_150 hQ
def f_X12_readsRest_68   (v : gV) : gV := f_X12_readsRest_150   v
def p_X12_readsRest_68   (v : gV) : Prop := p_X12_readsRest_150    v
set_option maxHeartbeats 4000000 in
set_option maxRecDepth 100000 in
theorem w_X12_readsRest_68 {E : gE} {d : Nat} {Q : gO → gS → Prop}   (hd : 3 ≤ d)  (v : gV) (hp : p_X12_readsRest_68    v) (hQ : gqV Q (f_X12_readsRest_68   v)) : gG E m_X12_readsRest d Q 0 0 (rS v) 68 [] [] := by
  refine g_goto 150 dX12_readsRest_68 (by decide) ?_
  exact w_X12_readsRest_150  hd     v hp hQ
def f_X12_readsRest_60   (v : gV) : gV := f_X12_readsRest_68   (f_X12_putBehind (32 : Int32) (2 : Int32) (2 : Int32) v)
def p_X12_readsRest_60   (v : gV) : Prop := (p_X12_putBehind (32 : Int32) (2 : Int32) (2 : Int32) v) ∧ (p_X12_readsRest_68    (f_X12_putBehind (32 : Int32) (2 : Int32) (2 : Int32) v))
set_option maxHeartbeats 4000000 in
set_option maxRecDepth 100000 in
theorem w_X12_readsRest_60 {E : gE} {d : Nat} {Q : gO → gS → Prop}   (hd : 3 ≤ d)  (v : gV) (hp : p_X12_readsRest_60    v) (hQ : gqV Q (f_X12_readsRest_60   v)) : gG E m_X12_readsRest d Q 0 0 (rS v) 60 [(0, .ref (gX E + 559))] [] := by
  refine g_aload_n 0 dX12_readsRest_60 rfl ?_
  refine g_bipush dX12_readsRest_61 (32 : Int32) (by decide) ?_
  refine g_iconst dX12_readsRest_63 (2 : Int32) (by decide) ?_
  refine g_iconst dX12_readsRest_64 (2 : Int32) (by decide) ?_
  obtain ⟨h3, hp⟩ := hp
  refine g_callV (rest := []) s_X12_307_X12 rfl (c_X12_putBehind (E := E) (d := d - 1)   (by omega) (32 : Int32) (2 : Int32) (2 : Int32) v h3) (by decide : kd 559 = (0, 9)) (show 559 < 572 by decide) rfl rfl (Nat.le_of_ble_eq_true rfl) (by omega) (by decide) (by decide) dX12_readsRest_65 (adN ?_) axN
  refine g_lv (lv' := []) [] rfl ?_
  exact w_X12_readsRest_68  hd     (f_X12_putBehind (32 : Int32) (2 : Int32) (2 : Int32) v) hp hQ
def f_X12_readsRest_95   (v : gV) : gV := f_X12_readsRest_150   v
def p_X12_readsRest_95   (v : gV) : Prop := p_X12_readsRest_150    v
set_option maxHeartbeats 4000000 in
set_option maxRecDepth 100000 in
theorem w_X12_readsRest_95 {E : gE} {d : Nat} {Q : gO → gS → Prop}   (hd : 3 ≤ d)  (v : gV) (hp : p_X12_readsRest_95    v) (hQ : gqV Q (f_X12_readsRest_95   v)) : gG E m_X12_readsRest d Q 0 0 (rS v) 95 [] [] := by
  refine g_goto 150 dX12_readsRest_95 (by decide) ?_
  exact w_X12_readsRest_150  hd     v hp hQ
def f_X12_readsRest_87   (v : gV) : gV := f_X12_readsRest_95   (f_X12_putBehind (32 : Int32) (3 : Int32) (2 : Int32) v)
def p_X12_readsRest_87   (v : gV) : Prop := (p_X12_putBehind (32 : Int32) (3 : Int32) (2 : Int32) v) ∧ (p_X12_readsRest_95    (f_X12_putBehind (32 : Int32) (3 : Int32) (2 : Int32) v))
set_option maxHeartbeats 4000000 in
set_option maxRecDepth 100000 in
theorem w_X12_readsRest_87 {E : gE} {d : Nat} {Q : gO → gS → Prop}   (hd : 3 ≤ d)  (v : gV) (hp : p_X12_readsRest_87    v) (hQ : gqV Q (f_X12_readsRest_87   v)) : gG E m_X12_readsRest d Q 0 0 (rS v) 87 [(0, .ref (gX E + 559))] [] := by
  refine g_aload_n 0 dX12_readsRest_87 rfl ?_
  refine g_bipush dX12_readsRest_88 (32 : Int32) (by decide) ?_
  refine g_iconst dX12_readsRest_90 (3 : Int32) (by decide) ?_
  refine g_iconst dX12_readsRest_91 (2 : Int32) (by decide) ?_
  obtain ⟨h8, hp⟩ := hp
  refine g_callV (rest := []) s_X12_307_X12 rfl (c_X12_putBehind (E := E) (d := d - 1)   (by omega) (32 : Int32) (3 : Int32) (2 : Int32) v h8) (by decide : kd 559 = (0, 9)) (show 559 < 572 by decide) rfl rfl (Nat.le_of_ble_eq_true rfl) (by omega) (by decide) (by decide) dX12_readsRest_92 (adN ?_) axN
  refine g_lv (lv' := []) [] rfl ?_
  exact w_X12_readsRest_95  hd     (f_X12_putBehind (32 : Int32) (3 : Int32) (2 : Int32) v) hp hQ
def f_X12_readsRest_79   (v : gV) : gV := f_X12_readsRest_87   (f_X12_putBehind (42 : Int32) (2 : Int32) (2 : Int32) v)
def p_X12_readsRest_79   (v : gV) : Prop := (p_X12_putBehind (42 : Int32) (2 : Int32) (2 : Int32) v) ∧ (p_X12_readsRest_87    (f_X12_putBehind (42 : Int32) (2 : Int32) (2 : Int32) v))
set_option maxHeartbeats 4000000 in
set_option maxRecDepth 100000 in
theorem w_X12_readsRest_79 {E : gE} {d : Nat} {Q : gO → gS → Prop}   (hd : 3 ≤ d)  (v : gV) (hp : p_X12_readsRest_79    v) (hQ : gqV Q (f_X12_readsRest_79   v)) : gG E m_X12_readsRest d Q 0 0 (rS v) 79 [(0, .ref (gX E + 559))] [] := by
  refine g_aload_n 0 dX12_readsRest_79 rfl ?_
  refine g_bipush dX12_readsRest_80 (42 : Int32) (by decide) ?_
  refine g_iconst dX12_readsRest_82 (2 : Int32) (by decide) ?_
  refine g_iconst dX12_readsRest_83 (2 : Int32) (by decide) ?_
  obtain ⟨h7, hp⟩ := hp
  refine g_callV (rest := []) s_X12_307_X12 rfl (c_X12_putBehind (E := E) (d := d - 1)   (by omega) (42 : Int32) (2 : Int32) (2 : Int32) v h7) (by decide : kd 559 = (0, 9)) (show 559 < 572 by decide) rfl rfl (Nat.le_of_ble_eq_true rfl) (by omega) (by decide) (by decide) dX12_readsRest_84 (adN ?_) axN
  exact w_X12_readsRest_87  hd     (f_X12_putBehind (42 : Int32) (2 : Int32) (2 : Int32) v) hp hQ
def f_X12_readsRest_117   (v : gV) : gV := f_X12_readsRest_150   v
def p_X12_readsRest_117   (v : gV) : Prop := p_X12_readsRest_150    v
set_option maxHeartbeats 4000000 in
set_option maxRecDepth 100000 in
theorem w_X12_readsRest_117 {E : gE} {d : Nat} {Q : gO → gS → Prop}   (hd : 3 ≤ d)  (v : gV) (hp : p_X12_readsRest_117    v) (hQ : gqV Q (f_X12_readsRest_117   v)) : gG E m_X12_readsRest d Q 0 0 (rS v) 117 [] [] := by
  refine g_goto 150 dX12_readsRest_117 (by decide) ?_
  exact w_X12_readsRest_150  hd     v hp hQ
def f_X12_readsRest_114  (s0 : Int32) (s1 : Int32) (v : gV) : gV := f_X12_readsRest_117   (f_X12_put s1 s0 v)
def p_X12_readsRest_114  (s0 : Int32) (s1 : Int32) (v : gV) : Prop := (p_X12_put s1 s0 v) ∧ (p_X12_readsRest_117    (f_X12_put s1 s0 v))
set_option maxHeartbeats 4000000 in
set_option maxRecDepth 100000 in
theorem w_X12_readsRest_114 {E : gE} {d : Nat} {Q : gO → gS → Prop}   (hd : 3 ≤ d) (s0 : Int32) (s1 : Int32) (v : gV) (hp : p_X12_readsRest_114   s0 s1 v) (hQ : gqV Q (f_X12_readsRest_114  s0 s1 v)) : gG E m_X12_readsRest d Q 0 0 (rS v) 114 [] [.int s0, .int s1, .ref (gX E + 559)] := by
  obtain ⟨h14, hp⟩ := hp
  refine g_callV (rest := []) s_X12_303_X12 rfl (c_X12_put (E := E) (d := d - 1)   (by omega) s1 s0 v h14) (by decide : kd 559 = (0, 9)) (show 559 < 572 by decide) rfl rfl (Nat.le_of_ble_eq_true rfl) (by omega) (by decide) (by decide) dX12_readsRest_114 (adN ?_) axN
  exact w_X12_readsRest_117  hd     (f_X12_put s1 s0 v) hp hQ
def f_X12_readsRest_107   (v : gV) : gV := f_X12_readsRest_114  ((f_X12_number (2 : Int32) v).1) (2 : Int32) (f_X12_number (2 : Int32) v).2
def p_X12_readsRest_107   (v : gV) : Prop := (p_X12_number (2 : Int32) v) ∧ (p_X12_readsRest_114   ((f_X12_number (2 : Int32) v).1) (2 : Int32) (f_X12_number (2 : Int32) v).2)
set_option maxHeartbeats 4000000 in
set_option maxRecDepth 100000 in
theorem w_X12_readsRest_107 {E : gE} {d : Nat} {Q : gO → gS → Prop}   (hd : 3 ≤ d)  (v : gV) (hp : p_X12_readsRest_107    v) (hQ : gqV Q (f_X12_readsRest_107   v)) : gG E m_X12_readsRest d Q 0 0 (rS v) 107 [(0, .ref (gX E + 559))] [] := by
  refine g_aload_n 0 dX12_readsRest_107 rfl ?_
  refine g_iconst dX12_readsRest_108 (2 : Int32) (by decide) ?_
  refine g_aload_n 0 dX12_readsRest_109 rfl ?_
  refine g_iconst dX12_readsRest_110 (2 : Int32) (by decide) ?_
  obtain ⟨h13, hp⟩ := hp
  refine g_callV (rest := [.int ((2 : Int32)), .ref (gX E + 559)]) s_X12_300_X12 rfl (c_X12_number (E := E) (d := d - 1)   (by omega) (2 : Int32) v h13) (by decide : kd 559 = (0, 9)) (show 559 < 572 by decide) rfl rfl (Nat.le_of_ble_eq_true rfl) (by omega) (by decide) (by decide) dX12_readsRest_111 (adV ?_) axN
  refine g_lv (lv' := []) [] rfl ?_
  exact w_X12_readsRest_114  hd    ((f_X12_number (2 : Int32) v).1) (2 : Int32) (f_X12_number (2 : Int32) v).2 hp hQ
def f_X12_readsRest_104  (s0 : Int32) (s1 : Int32) (v : gV) : gV := f_X12_readsRest_107   (f_X12_put s1 s0 v)
def p_X12_readsRest_104  (s0 : Int32) (s1 : Int32) (v : gV) : Prop := (p_X12_put s1 s0 v) ∧ (p_X12_readsRest_107    (f_X12_put s1 s0 v))
set_option maxHeartbeats 4000000 in
set_option maxRecDepth 100000 in
theorem w_X12_readsRest_104 {E : gE} {d : Nat} {Q : gO → gS → Prop}   (hd : 3 ≤ d) (s0 : Int32) (s1 : Int32) (v : gV) (hp : p_X12_readsRest_104   s0 s1 v) (hQ : gqV Q (f_X12_readsRest_104  s0 s1 v)) : gG E m_X12_readsRest d Q 0 0 (rS v) 104 [(0, .ref (gX E + 559))] [.int s0, .int s1, .ref (gX E + 559)] := by
  obtain ⟨h12, hp⟩ := hp
  refine g_callV (rest := []) s_X12_303_X12 rfl (c_X12_put (E := E) (d := d - 1)   (by omega) s1 s0 v h12) (by decide : kd 559 = (0, 9)) (show 559 < 572 by decide) rfl rfl (Nat.le_of_ble_eq_true rfl) (by omega) (by decide) (by decide) dX12_readsRest_104 (adN ?_) axN
  exact w_X12_readsRest_107  hd     (f_X12_put s1 s0 v) hp hQ
def f_X12_readsRest_128   (v : gV) : gV := f_X12_readsRest_150   v
def p_X12_readsRest_128   (v : gV) : Prop := p_X12_readsRest_150    v
set_option maxHeartbeats 4000000 in
set_option maxRecDepth 100000 in
theorem w_X12_readsRest_128 {E : gE} {d : Nat} {Q : gO → gS → Prop}   (hd : 3 ≤ d)  (v : gV) (hp : p_X12_readsRest_128    v) (hQ : gqV Q (f_X12_readsRest_128   v)) : gG E m_X12_readsRest d Q 0 0 (rS v) 128 [] [] := by
  refine g_goto 150 dX12_readsRest_128 (by decide) ?_
  exact w_X12_readsRest_150  hd     v hp hQ
def f_X12_readsRest_147   (v : gV) : gV := f_X12_readsRest_150   v
def p_X12_readsRest_147   (v : gV) : Prop := p_X12_readsRest_150    v
set_option maxHeartbeats 4000000 in
set_option maxRecDepth 100000 in
theorem w_X12_readsRest_147 {E : gE} {d : Nat} {Q : gO → gS → Prop}   (hd : 3 ≤ d)  (v : gV) (hp : p_X12_readsRest_147    v) (hQ : gqV Q (f_X12_readsRest_147   v)) : gG E m_X12_readsRest d Q 0 0 (rS v) 147 [] [] := by
  refine g_goto 150 dX12_readsRest_147 (by decide) ?_
  exact w_X12_readsRest_150  hd     v hp hQ
def f_X12_readsRest_139   (v : gV) : gV := f_X12_readsRest_147   (f_X12_putBehind (32 : Int32) (2 : Int32) (2 : Int32) v)
def p_X12_readsRest_139   (v : gV) : Prop := (p_X12_putBehind (32 : Int32) (2 : Int32) (2 : Int32) v) ∧ (p_X12_readsRest_147    (f_X12_putBehind (32 : Int32) (2 : Int32) (2 : Int32) v))
set_option maxHeartbeats 4000000 in
set_option maxRecDepth 100000 in
theorem w_X12_readsRest_139 {E : gE} {d : Nat} {Q : gO → gS → Prop}   (hd : 3 ≤ d)  (v : gV) (hp : p_X12_readsRest_139    v) (hQ : gqV Q (f_X12_readsRest_139   v)) : gG E m_X12_readsRest d Q 0 0 (rS v) 139 [(0, .ref (gX E + 559))] [] := by
  refine g_aload_n 0 dX12_readsRest_139 rfl ?_
  refine g_bipush dX12_readsRest_140 (32 : Int32) (by decide) ?_
  refine g_iconst dX12_readsRest_142 (2 : Int32) (by decide) ?_
  refine g_iconst dX12_readsRest_143 (2 : Int32) (by decide) ?_
  obtain ⟨h21, hp⟩ := hp
  refine g_callV (rest := []) s_X12_307_X12 rfl (c_X12_putBehind (E := E) (d := d - 1)   (by omega) (32 : Int32) (2 : Int32) (2 : Int32) v h21) (by decide : kd 559 = (0, 9)) (show 559 < 572 by decide) rfl rfl (Nat.le_of_ble_eq_true rfl) (by omega) (by decide) (by decide) dX12_readsRest_144 (adN ?_) axN
  refine g_lv (lv' := []) [] rfl ?_
  exact w_X12_readsRest_147  hd     (f_X12_putBehind (32 : Int32) (2 : Int32) (2 : Int32) v) hp hQ
def f_X12_readsRest_0  (x1 : Int32) (v : gV) : gV := if x1 = 0 then (f_X12_readsRest_60   (f_X12_putBehind (32 : Int32) (1 : Int32) (1 : Int32) v)) else (if x1 = 1 then (f_X12_readsRest_150   v) else (if x1 = 2 then (f_X12_readsRest_79   (f_X12_putBehind (43 : Int32) (1 : Int32) (2 : Int32) v)) else (if x1 = 3 then (f_X12_readsRest_150   v) else (if x1 = 4 then (f_X12_readsRest_104  ((f_X12_cause  v).1) (1 : Int32) (f_X12_cause  v).2) else (if x1 = 5 then (f_X12_readsRest_128   (f_X12_putBehind (32 : Int32) (1 : Int32) (2 : Int32) v)) else (if x1 = 6 then (f_X12_readsRest_150   v) else (if x1 = 7 then (f_X12_readsRest_150   v) else (if x1 = 8 then (f_X12_readsRest_139   (f_X12_putBehind (45 : Int32) (1 : Int32) (2 : Int32) v)) else (f_X12_readsRest_150   v)))))))))
def p_X12_readsRest_0  (x1 : Int32) (v : gV) : Prop := ((x1 = 0) → ((p_X12_putBehind (32 : Int32) (1 : Int32) (1 : Int32) v) ∧ (p_X12_readsRest_60    (f_X12_putBehind (32 : Int32) (1 : Int32) (1 : Int32) v)))) ∧ (¬ (x1 = 0) → (((x1 = 1) → (p_X12_readsRest_150    v)) ∧ (¬ (x1 = 1) → (((x1 = 2) → ((p_X12_putBehind (43 : Int32) (1 : Int32) (2 : Int32) v) ∧ (p_X12_readsRest_79    (f_X12_putBehind (43 : Int32) (1 : Int32) (2 : Int32) v)))) ∧ (¬ (x1 = 2) → (((x1 = 3) → (p_X12_readsRest_150    v)) ∧ (¬ (x1 = 3) → (((x1 = 4) → ((p_X12_cause  v) ∧ (p_X12_readsRest_104   ((f_X12_cause  v).1) (1 : Int32) (f_X12_cause  v).2))) ∧ (¬ (x1 = 4) → (((x1 = 5) → ((p_X12_putBehind (32 : Int32) (1 : Int32) (2 : Int32) v) ∧ (p_X12_readsRest_128    (f_X12_putBehind (32 : Int32) (1 : Int32) (2 : Int32) v)))) ∧ (¬ (x1 = 5) → (((x1 = 6) → (p_X12_readsRest_150    v)) ∧ (¬ (x1 = 6) → (((x1 = 7) → (p_X12_readsRest_150    v)) ∧ (¬ (x1 = 7) → (((x1 = 8) → ((p_X12_putBehind (45 : Int32) (1 : Int32) (2 : Int32) v) ∧ (p_X12_readsRest_139    (f_X12_putBehind (45 : Int32) (1 : Int32) (2 : Int32) v)))) ∧ (¬ (x1 = 8) → (p_X12_readsRest_150    v))))))))))))))))))
set_option maxHeartbeats 4000000 in
set_option maxRecDepth 100000 in
theorem w_X12_readsRest_0 {E : gE} {d : Nat} {Q : gO → gS → Prop}   (hd : 3 ≤ d) (x1 : Int32) (v : gV) (hp : p_X12_readsRest_0   x1 v) (hQ : gqV Q (f_X12_readsRest_0  x1 v)) : gG E m_X12_readsRest d Q 0 0 (rS v) 0 [(0, .ref (gX E + 559)), (1, .int x1)] [] := by
  refine g_iload_n 1 dX12_readsRest_0 rfl ?_
  by_cases h1 : x1 = 0
  · have hQ := qp (P := gqV Q) h1 hQ
    have hp := hp.1 h1
    refine g_tableIn 52 dX12_readsRest_1 (by rw [h1]; decide) (by rw [h1]; decide) (by rw [h1]; rfl) (by decide) ?_
    refine g_aload_n 0 dX12_readsRest_52 rfl ?_
    refine g_bipush dX12_readsRest_53 (32 : Int32) (by decide) ?_
    refine g_iconst dX12_readsRest_55 (1 : Int32) (by decide) ?_
    refine g_iconst dX12_readsRest_56 (1 : Int32) (by decide) ?_
    obtain ⟨h2, hp⟩ := hp
    refine g_callV (rest := []) s_X12_307_X12 rfl (c_X12_putBehind (E := E) (d := d - 1)   (by omega) (32 : Int32) (1 : Int32) (1 : Int32) v h2) (by decide : kd 559 = (0, 9)) (show 559 < 572 by decide) rfl rfl (Nat.le_of_ble_eq_true rfl) (by omega) (by decide) (by decide) dX12_readsRest_57 (adN ?_) axN
    refine g_lv (lv' := [(0, .ref (gX E + 559))]) [0] rfl ?_
    exact w_X12_readsRest_60  hd     (f_X12_putBehind (32 : Int32) (1 : Int32) (1 : Int32) v) hp hQ
  have hQ := qn (P := gqV Q) h1 hQ
  have hp := hp.2 h1
  by_cases h4 : x1 = 1
  · have hQ := qp (P := gqV Q) h4 hQ
    have hp := hp.1 h4
    refine g_tableIn 150 dX12_readsRest_1 (by rw [h4]; decide) (by rw [h4]; decide) (by rw [h4]; rfl) (by decide) ?_
    refine g_lv (lv' := []) [] rfl ?_
    exact w_X12_readsRest_150  hd     v hp hQ
  have hQ := qn (P := gqV Q) h4 hQ
  have hp := hp.2 h4
  by_cases h5 : x1 = 2
  · have hQ := qp (P := gqV Q) h5 hQ
    have hp := hp.1 h5
    refine g_tableIn 71 dX12_readsRest_1 (by rw [h5]; decide) (by rw [h5]; decide) (by rw [h5]; rfl) (by decide) ?_
    refine g_aload_n 0 dX12_readsRest_71 rfl ?_
    refine g_bipush dX12_readsRest_72 (43 : Int32) (by decide) ?_
    refine g_iconst dX12_readsRest_74 (1 : Int32) (by decide) ?_
    refine g_iconst dX12_readsRest_75 (2 : Int32) (by decide) ?_
    obtain ⟨h6, hp⟩ := hp
    refine g_callV (rest := []) s_X12_307_X12 rfl (c_X12_putBehind (E := E) (d := d - 1)   (by omega) (43 : Int32) (1 : Int32) (2 : Int32) v h6) (by decide : kd 559 = (0, 9)) (show 559 < 572 by decide) rfl rfl (Nat.le_of_ble_eq_true rfl) (by omega) (by decide) (by decide) dX12_readsRest_76 (adN ?_) axN
    refine g_lv (lv' := [(0, .ref (gX E + 559))]) [0] rfl ?_
    exact w_X12_readsRest_79  hd     (f_X12_putBehind (43 : Int32) (1 : Int32) (2 : Int32) v) hp hQ
  have hQ := qn (P := gqV Q) h5 hQ
  have hp := hp.2 h5
  by_cases h9 : x1 = 3
  · have hQ := qp (P := gqV Q) h9 hQ
    have hp := hp.1 h9
    refine g_tableIn 150 dX12_readsRest_1 (by rw [h9]; decide) (by rw [h9]; decide) (by rw [h9]; rfl) (by decide) ?_
    refine g_lv (lv' := []) [] rfl ?_
    exact w_X12_readsRest_150  hd     v hp hQ
  have hQ := qn (P := gqV Q) h9 hQ
  have hp := hp.2 h9
  by_cases h10 : x1 = 4
  · have hQ := qp (P := gqV Q) h10 hQ
    have hp := hp.1 h10
    refine g_tableIn 98 dX12_readsRest_1 (by rw [h10]; decide) (by rw [h10]; decide) (by rw [h10]; rfl) (by decide) ?_
    refine g_aload_n 0 dX12_readsRest_98 rfl ?_
    refine g_iconst dX12_readsRest_99 (1 : Int32) (by decide) ?_
    refine g_aload_n 0 dX12_readsRest_100 rfl ?_
    obtain ⟨h11, hp⟩ := hp
    refine g_callV (rest := [.int ((1 : Int32)), .ref (gX E + 559)]) s_X12_311_X12 rfl (c_X12_cause (E := E) (d := d - 1)   (by omega)  v h11) (by decide : kd 559 = (0, 9)) (show 559 < 572 by decide) rfl rfl (Nat.le_of_ble_eq_true rfl) (by omega) (by decide) (by decide) dX12_readsRest_101 (adV ?_) axN
    refine g_lv (lv' := [(0, .ref (gX E + 559))]) [0] rfl ?_
    exact w_X12_readsRest_104  hd    ((f_X12_cause  v).1) (1 : Int32) (f_X12_cause  v).2 hp hQ
  have hQ := qn (P := gqV Q) h10 hQ
  have hp := hp.2 h10
  by_cases h15 : x1 = 5
  · have hQ := qp (P := gqV Q) h15 hQ
    have hp := hp.1 h15
    refine g_tableIn 120 dX12_readsRest_1 (by rw [h15]; decide) (by rw [h15]; decide) (by rw [h15]; rfl) (by decide) ?_
    refine g_aload_n 0 dX12_readsRest_120 rfl ?_
    refine g_bipush dX12_readsRest_121 (32 : Int32) (by decide) ?_
    refine g_iconst dX12_readsRest_123 (1 : Int32) (by decide) ?_
    refine g_iconst dX12_readsRest_124 (2 : Int32) (by decide) ?_
    obtain ⟨h16, hp⟩ := hp
    refine g_callV (rest := []) s_X12_307_X12 rfl (c_X12_putBehind (E := E) (d := d - 1)   (by omega) (32 : Int32) (1 : Int32) (2 : Int32) v h16) (by decide : kd 559 = (0, 9)) (show 559 < 572 by decide) rfl rfl (Nat.le_of_ble_eq_true rfl) (by omega) (by decide) (by decide) dX12_readsRest_125 (adN ?_) axN
    refine g_lv (lv' := []) [] rfl ?_
    exact w_X12_readsRest_128  hd     (f_X12_putBehind (32 : Int32) (1 : Int32) (2 : Int32) v) hp hQ
  have hQ := qn (P := gqV Q) h15 hQ
  have hp := hp.2 h15
  by_cases h17 : x1 = 6
  · have hQ := qp (P := gqV Q) h17 hQ
    have hp := hp.1 h17
    refine g_tableIn 150 dX12_readsRest_1 (by rw [h17]; decide) (by rw [h17]; decide) (by rw [h17]; rfl) (by decide) ?_
    refine g_lv (lv' := []) [] rfl ?_
    exact w_X12_readsRest_150  hd     v hp hQ
  have hQ := qn (P := gqV Q) h17 hQ
  have hp := hp.2 h17
  by_cases h18 : x1 = 7
  · have hQ := qp (P := gqV Q) h18 hQ
    have hp := hp.1 h18
    refine g_tableIn 150 dX12_readsRest_1 (by rw [h18]; decide) (by rw [h18]; decide) (by rw [h18]; rfl) (by decide) ?_
    refine g_lv (lv' := []) [] rfl ?_
    exact w_X12_readsRest_150  hd     v hp hQ
  have hQ := qn (P := gqV Q) h18 hQ
  have hp := hp.2 h18
  by_cases h19 : x1 = 8
  · have hQ := qp (P := gqV Q) h19 hQ
    have hp := hp.1 h19
    refine g_tableIn 131 dX12_readsRest_1 (by rw [h19]; decide) (by rw [h19]; decide) (by rw [h19]; rfl) (by decide) ?_
    refine g_aload_n 0 dX12_readsRest_131 rfl ?_
    refine g_bipush dX12_readsRest_132 (45 : Int32) (by decide) ?_
    refine g_iconst dX12_readsRest_134 (1 : Int32) (by decide) ?_
    refine g_iconst dX12_readsRest_135 (2 : Int32) (by decide) ?_
    obtain ⟨h20, hp⟩ := hp
    refine g_callV (rest := []) s_X12_307_X12 rfl (c_X12_putBehind (E := E) (d := d - 1)   (by omega) (45 : Int32) (1 : Int32) (2 : Int32) v h20) (by decide : kd 559 = (0, 9)) (show 559 < 572 by decide) rfl rfl (Nat.le_of_ble_eq_true rfl) (by omega) (by decide) (by decide) dX12_readsRest_136 (adN ?_) axN
    refine g_lv (lv' := [(0, .ref (gX E + 559))]) [0] rfl ?_
    exact w_X12_readsRest_139  hd     (f_X12_putBehind (45 : Int32) (1 : Int32) (2 : Int32) v) hp hQ
  have hQ := qn (P := gqV Q) h19 hQ
  have hp := hp.2 h19
  refine g_tableOut 150 dX12_readsRest_1 (gsw_out [0, 1, 2, 3, 4, 5, 6, 7, 8] x1 (by decide) ⟨h1, h4, h5, h9, h10, h15, h17, h18, h19, trivial⟩) (by decide) ?_
  refine g_lv (lv' := []) [] rfl ?_
  exact w_X12_readsRest_150  hd     v hp hQ
def f_X12_readsRest  (x1 : Int32) (v : gV) : gV := f_X12_readsRest_0 x1 v
def p_X12_readsRest  (x1 : Int32) (v : gV) : Prop := p_X12_readsRest_0 x1 v
theorem c_X12_readsRest {E : gE} {d : Nat}   (hd : 3 ≤ d) (x1 : Int32) (v : gV) (hp : p_X12_readsRest x1 v) : CT E m_X12_readsRest d 0 0 [.ref (gX E + 559), .int x1] (rS v) (Cq (.inl none) (f_X12_readsRest x1 v)) := CT.of ok_X12_readsRest rfl (Nat.le_of_ble_eq_true rfl) (w_X12_readsRest_0  hd x1 v hp ⟨rfl, rfl⟩)
def f_X12_command_55   (v : gV) : gV := v
def p_X12_command_55   (v : gV) : Prop := True
set_option maxHeartbeats 4000000 in
set_option maxRecDepth 100000 in
theorem w_X12_command_55 {E : gE} {d : Nat} {Q : gO → gS → Prop}   (hd : 4 ≤ d)  (v : gV) (hp : p_X12_command_55    v) (hQ : gqV Q (f_X12_command_55   v)) : gG E m_X12_command d Q 0 0 (rS v) 55 [] [] := by
  exact g_vret rfl dX12_command_55 hQ
def f_X12_command_45   (v : gV) : gV := f_X12_command_55   (vM v 559 19 ((v.1 559 19) + (1 : Int32)))
def p_X12_command_45   (v : gV) : Prop := p_X12_command_55    (vM v 559 19 ((v.1 559 19) + (1 : Int32)))
set_option maxHeartbeats 4000000 in
set_option maxRecDepth 100000 in
theorem w_X12_command_45 {E : gE} {d : Nat} {Q : gO → gS → Prop}   (hd : 4 ≤ d)  (v : gV) (hp : p_X12_command_45    v) (hQ : gqV Q (f_X12_command_45   v)) : gG E m_X12_command d Q 0 0 (rS v) 45 [(0, .ref (gX E + 559))] [] := by
  refine g_aload_n 0 dX12_command_45 rfl ?_
  refine g_dup dX12_command_46 rfl ?_
  refine r_get (.int (v.1 559 19)) f_X12_69_X12 rfl (by decide : kd 559 = (0, 9)) (show 559 < 572 by decide) dX12_command_47 (fun _ => rfl) ?_
  refine g_iconst dX12_command_50 (1 : Int32) (by decide) ?_
  refine g_iadd dX12_command_51 ?_
  refine r_put pf_X12_69_X12 rfl (by decide : kd 559 = (0, 9)) (by decide) (by decide) rfl (show 559 < 572 by decide) rfl rfl dX12_command_52 ?_
  refine g_lv (lv' := []) [] rfl ?_
  exact w_X12_command_55  hd     (vM v 559 19 ((v.1 559 19) + (1 : Int32))) hp hQ
def f_X12_command_27  (x1 : Int32) (v : gV) : gV := if (v.1 559 20) = 0 then (f_X12_command_45   (vM v 568 (v.1 559 19).toNatClampNeg x1)) else v
def p_X12_command_27  (x1 : Int32) (v : gV) : Prop := (((v.1 559 20) = 0) → ((vp_in (v.1 559 19) 32) ∧ (p_X12_command_45    (vM v 568 (v.1 559 19).toNatClampNeg x1)))) ∧ (¬ ((v.1 559 20) = 0) → (True))
set_option maxHeartbeats 4000000 in
set_option maxRecDepth 100000 in
theorem w_X12_command_27 {E : gE} {d : Nat} {Q : gO → gS → Prop}   (hd : 4 ≤ d) (x1 : Int32) (v : gV) (hp : p_X12_command_27   x1 v) (hQ : gqV Q (f_X12_command_27  x1 v)) : gG E m_X12_command d Q 0 0 (rS v) 27 [(0, .ref (gX E + 559)), (1, .int x1)] [] := by
  refine g_aload_n 0 dX12_command_27 rfl ?_
  refine r_get (.int (v.1 559 20)) f_X12_72_X12 rfl (by decide : kd 559 = (0, 9)) (show 559 < 572 by decide) dX12_command_28 (fun _ => rfl) ?_
  refine g_if_eq 35 dX12_command_31 (by decide) (fun h5 => ?_) (fun h5 => ?_)
  · have hQ := qp (P := gqV Q) h5 hQ
    have hp := hp.1 h5
    refine g_aload_n 0 dX12_command_35 rfl ?_
    refine r_get (.ref (gX E + 568)) f_X12_54_X12 rfl (by decide : kd 559 = (0, 9)) (show 559 < 572 by decide) dX12_command_36 (fun _ => rfl) ?_
    refine g_aload_n 0 dX12_command_39 rfl ?_
    refine r_get (.int (v.1 559 19)) f_X12_69_X12 rfl (by decide : kd 559 = (0, 9)) (show 559 < 572 by decide) dX12_command_40 (fun _ => rfl) ?_
    refine g_iload_n 1 dX12_command_43 rfl ?_
    obtain ⟨h6, hp⟩ := hp
    refine r_iast (by decide : kd 568 = (1, 32)) (show 568 < 572 by decide) h6 dX12_command_44 ?_
    refine g_lv (lv' := [(0, .ref (gX E + 559))]) [0] rfl ?_
    exact w_X12_command_45  hd     (vM v 568 (v.1 559 19).toNatClampNeg x1) hp hQ
  · have hQ := qn (P := gqV Q) h5 hQ
    have hp := hp.2 h5
    exact g_vret rfl dX12_command_34 hQ
def f_X12_command_22  (x1 : Int32) (v : gV) : gV := f_X12_command_27  x1 (f_X12_readsRest x1 v)
def p_X12_command_22  (x1 : Int32) (v : gV) : Prop := (p_X12_readsRest x1 v) ∧ (p_X12_command_27   x1 (f_X12_readsRest x1 v))
set_option maxHeartbeats 4000000 in
set_option maxRecDepth 100000 in
theorem w_X12_command_22 {E : gE} {d : Nat} {Q : gO → gS → Prop}   (hd : 4 ≤ d) (x1 : Int32) (v : gV) (hp : p_X12_command_22   x1 v) (hQ : gqV Q (f_X12_command_22  x1 v)) : gG E m_X12_command d Q 0 0 (rS v) 22 [(0, .ref (gX E + 559)), (1, .int x1)] [] := by
  refine g_aload_n 0 dX12_command_22 rfl ?_
  refine g_iload_n 1 dX12_command_23 rfl ?_
  obtain ⟨h4, hp⟩ := hp
  refine g_callV (rest := []) s_X12_317_X12 rfl (c_X12_readsRest (E := E) (d := d - 1)   (by omega) x1 v h4) (by decide : kd 559 = (0, 9)) (show 559 < 572 by decide) rfl rfl (Nat.le_of_ble_eq_true rfl) (by omega) (by decide) (by decide) dX12_command_24 (adN ?_) axN
  exact w_X12_command_27  hd    x1 (f_X12_readsRest x1 v) hp hQ
def f_X12_command_19  (x1 : Int32) (s0 : Int32) (s1 : Int32) (s2 : Int32) (v : gV) : gV := f_X12_command_22  x1 (f_X12_putBehind s2 s1 s0 v)
def p_X12_command_19  (x1 : Int32) (s0 : Int32) (s1 : Int32) (s2 : Int32) (v : gV) : Prop := (p_X12_putBehind s2 s1 s0 v) ∧ (p_X12_command_22   x1 (f_X12_putBehind s2 s1 s0 v))
set_option maxHeartbeats 4000000 in
set_option maxRecDepth 100000 in
theorem w_X12_command_19 {E : gE} {d : Nat} {Q : gO → gS → Prop}   (hd : 4 ≤ d) (x1 : Int32) (s0 : Int32) (s1 : Int32) (s2 : Int32) (v : gV) (hp : p_X12_command_19   x1 s0 s1 s2 v) (hQ : gqV Q (f_X12_command_19  x1 s0 s1 s2 v)) : gG E m_X12_command d Q 0 0 (rS v) 19 [(0, .ref (gX E + 559)), (1, .int x1)] [.int s0, .int s1, .int s2, .ref (gX E + 559)] := by
  obtain ⟨h3, hp⟩ := hp
  refine g_callV (rest := []) s_X12_307_X12 rfl (c_X12_putBehind (E := E) (d := d - 1)   (by omega) s2 s1 s0 v h3) (by decide : kd 559 = (0, 9)) (show 559 < 572 by decide) rfl rfl (Nat.le_of_ble_eq_true rfl) (by omega) (by decide) (by decide) dX12_command_19 (adN ?_) axN
  exact w_X12_command_22  hd    x1 (f_X12_putBehind s2 s1 s0 v) hp hQ
def f_X12_command_4  (s0 : Int32) (v : gV) : gV := if s0 = (3 : Int32) then (f_X12_command_19  s0 (1 : Int32) (0 : Int32) (32 : Int32) v) else (f_X12_command_19  s0 (2 : Int32) (0 : Int32) (32 : Int32) v)
def p_X12_command_4  (s0 : Int32) (v : gV) : Prop := ((s0 = (3 : Int32)) → (p_X12_command_19   s0 (1 : Int32) (0 : Int32) (32 : Int32) v)) ∧ (¬ (s0 = (3 : Int32)) → (p_X12_command_19   s0 (2 : Int32) (0 : Int32) (32 : Int32) v))
set_option maxHeartbeats 4000000 in
set_option maxRecDepth 100000 in
theorem w_X12_command_4 {E : gE} {d : Nat} {Q : gO → gS → Prop}   (hd : 4 ≤ d) (s0 : Int32) (v : gV) (hp : p_X12_command_4   s0 v) (hQ : gqV Q (f_X12_command_4  s0 v)) : gG E m_X12_command d Q 0 0 (rS v) 4 [(0, .ref (gX E + 559))] [.int s0] := by
  refine g_istore_n [(1, .int s0), (0, .ref (gX E + 559))] dX12_command_4 rfl (by decide) rfl ?_
  refine g_aload_n 1 dX12_command_5 rfl ?_
  refine g_bipush dX12_command_6 (32 : Int32) (by decide) ?_
  refine g_iconst dX12_command_8 (0 : Int32) (by decide) ?_
  refine g_iload_n 0 dX12_command_9 rfl ?_
  refine g_iconst dX12_command_10 (3 : Int32) (by decide) ?_
  refine g_icmp_ne 18 dX12_command_11 (by decide) (fun h2 => ?_) (fun h2 => ?_)
  · have hQ := qn (P := gqV Q) h2 hQ
    have hp := hp.2 h2
    refine g_iconst dX12_command_18 (2 : Int32) (by decide) ?_
    refine g_lv (lv' := [(0, .ref (gX E + 559)), (1, .int s0)]) [1, 0] rfl ?_
    exact w_X12_command_19  hd    s0 (2 : Int32) (0 : Int32) (32 : Int32) v hp hQ
  · have hQ := qp (P := gqV Q) h2 hQ
    have hp := hp.1 h2
    refine g_iconst dX12_command_14 (1 : Int32) (by decide) ?_
    refine g_goto 19 dX12_command_15 (by decide) ?_
    refine g_lv (lv' := [(0, .ref (gX E + 559)), (1, .int s0)]) [1, 0] rfl ?_
    exact w_X12_command_19  hd    s0 (1 : Int32) (0 : Int32) (32 : Int32) v hp hQ
def f_X12_command_0   (v : gV) : gV := f_X12_command_4  ((f_X12_word  v).1) (f_X12_word  v).2
def p_X12_command_0   (v : gV) : Prop := (p_X12_word  v) ∧ (p_X12_command_4   ((f_X12_word  v).1) (f_X12_word  v).2)
set_option maxHeartbeats 4000000 in
set_option maxRecDepth 100000 in
theorem w_X12_command_0 {E : gE} {d : Nat} {Q : gO → gS → Prop}   (hd : 4 ≤ d)  (v : gV) (hp : p_X12_command_0    v) (hQ : gqV Q (f_X12_command_0   v)) : gG E m_X12_command d Q 0 0 (rS v) 0 [(0, .ref (gX E + 559))] [] := by
  refine g_aload_n 0 dX12_command_0 rfl ?_
  obtain ⟨h1, hp⟩ := hp
  refine g_callV (rest := []) s_X12_314_X12 rfl (c_X12_word (E := E) (d := d - 1)   (by omega)  v h1) (by decide : kd 559 = (0, 9)) (show 559 < 572 by decide) rfl rfl (Nat.le_of_ble_eq_true rfl) (by omega) (by decide) (by decide) dX12_command_1 (adV ?_) axN
  exact w_X12_command_4  hd    ((f_X12_word  v).1) (f_X12_word  v).2 hp hQ
def f_X12_command   (v : gV) : gV := f_X12_command_0  v
def p_X12_command   (v : gV) : Prop := p_X12_command_0  v
theorem c_X12_command {E : gE} {d : Nat}   (hd : 4 ≤ d)  (v : gV) (hp : p_X12_command  v) : CT E m_X12_command d 0 0 [.ref (gX E + 559)] (rS v) (Cq (.inl none) (f_X12_command  v)) := CT.of ok_X12_command rfl (Nat.le_of_ble_eq_true rfl) (w_X12_command_0  hd  v hp ⟨rfl, rfl⟩)
def f_X12_parse_83   (v : gV) : gV := v
def p_X12_parse_83   (v : gV) : Prop := True
set_option maxHeartbeats 4000000 in
set_option maxRecDepth 100000 in
theorem w_X12_parse_83 {E : gE} {d : Nat} {Q : gO → gS → Prop}   (hd : 5 ≤ d)  (v : gV) (hp : p_X12_parse_83    v) (hQ : gqV Q (f_X12_parse_83   v)) : gG E m_X12_parse d Q 0 0 (rS v) 83 [] [] := by
  exact g_vret rfl dX12_parse_83 hQ
def f_X12_parse_79  (s0 : Int32) (s1 : Int32) (v : gV) : gV := f_X12_parse_83   (vM v 559 20 (s1 ||| s0))
def p_X12_parse_79  (s0 : Int32) (s1 : Int32) (v : gV) : Prop := ((s1 ||| s0) = 0 ∨ (s1 ||| s0) = 1) ∧ (p_X12_parse_83    (vM v 559 20 (s1 ||| s0)))
set_option maxHeartbeats 4000000 in
set_option maxRecDepth 100000 in
theorem w_X12_parse_79 {E : gE} {d : Nat} {Q : gO → gS → Prop}   (hd : 5 ≤ d) (s0 : Int32) (s1 : Int32) (v : gV) (hp : p_X12_parse_79   s0 s1 v) (hQ : gqV Q (f_X12_parse_79  s0 s1 v)) : gG E m_X12_parse d Q 0 0 (rS v) 79 [] [.int s0, .int s1, .ref (gX E + 559)] := by
  refine g_ior dX12_parse_79 ?_
  obtain ⟨h5, hp⟩ := hp
  refine r_put pf_X12_72_X12 rfl (by decide : kd 559 = (0, 9)) (by decide) (by decide) rfl (show 559 < 572 by decide) (nz h5) (fz h5) dX12_parse_80 ?_
  exact w_X12_parse_83  hd     (vM v 559 20 (s1 ||| s0)) hp hQ
def f_X12_parse_55  (K32 : gV → gV)   (v : gV) : gV := K32  v
def p_X12_parse_55  (K32 : gV → gV)  (PK32 : gV → Prop)   (v : gV) : Prop := PK32  v
set_option maxHeartbeats 4000000 in
set_option maxRecDepth 100000 in
theorem w_X12_parse_55 {E : gE} {d : Nat} {Q : gO → gS → Prop}   (hd : 5 ≤ d) (K32 : gV → gV)  (PK32 : gV → Prop)  (hK32 : ∀  (v : gV), PK32  v → gqV Q (K32  v) → gG E m_X12_parse d Q 0 0 (rS v) 32 [(0, .ref (gX E + 559))] [])   (v : gV) (hp : p_X12_parse_55 K32 PK32  v) (hQ : gqV Q (f_X12_parse_55 K32  v)) : gG E m_X12_parse d Q 0 0 (rS v) 55 [(0, .ref (gX E + 559))] [] := by
  refine g_goto 32 dX12_parse_55 (by decide) ?_
  exact hK32  v hp hQ
def f_X12_parse_51  (K32 : gV → gV)   (v : gV) : gV := f_X12_parse_55 K32  (f_X12_command  v)
def p_X12_parse_51  (K32 : gV → gV)  (PK32 : gV → Prop)   (v : gV) : Prop := (p_X12_command  v) ∧ (p_X12_parse_55 K32 PK32  (f_X12_command  v))
set_option maxHeartbeats 4000000 in
set_option maxRecDepth 100000 in
theorem w_X12_parse_51 {E : gE} {d : Nat} {Q : gO → gS → Prop}   (hd : 5 ≤ d) (K32 : gV → gV)  (PK32 : gV → Prop)  (hK32 : ∀  (v : gV), PK32  v → gqV Q (K32  v) → gG E m_X12_parse d Q 0 0 (rS v) 32 [(0, .ref (gX E + 559))] [])   (v : gV) (hp : p_X12_parse_51 K32 PK32  v) (hQ : gqV Q (f_X12_parse_51 K32  v)) : gG E m_X12_parse d Q 0 0 (rS v) 51 [(0, .ref (gX E + 559))] [] := by
  refine g_aload_n 0 dX12_parse_51 rfl ?_
  obtain ⟨h6, hp⟩ := hp
  refine g_callV (rest := []) s_X12_320_X12 rfl (c_X12_command (E := E) (d := d - 1)   (by omega)  v h6) (by decide : kd 559 = (0, 9)) (show 559 < 572 by decide) rfl rfl (Nat.le_of_ble_eq_true rfl) (by omega) (by decide) (by decide) dX12_parse_52 (adN ?_) axN
  exact w_X12_parse_55  hd K32 PK32 hK32  (f_X12_command  v) hp hQ
def f_X12_parse_32  : Nat → gV → gV
  | 0, v => v
  | n + 1, v => if (f_X12_mark  v) = (59 : Int32) then (f_X12_parse_51 (fun  v => f_X12_parse_32  n  v)  (vM v 559 18 ((v.1 559 18) + (1 : Int32)))) else (if (v.1 559 17) ≤ (v.1 559 18) then (f_X12_parse_79  (0 : Int32) (v.1 559 20) v) else (f_X12_parse_79  (1 : Int32) (v.1 559 20) v))
def p_X12_parse_32  : Nat → gV → Prop
  | 0, _ => False
  | n + 1, v => (p_X12_mark  v) ∧ ((((f_X12_mark  v) = (59 : Int32)) → (p_X12_parse_51 (fun  v => f_X12_parse_32  n  v) (fun  v => p_X12_parse_32   n  v)  (vM v 559 18 ((v.1 559 18) + (1 : Int32))))) ∧ (¬ ((f_X12_mark  v) = (59 : Int32)) → ((((v.1 559 17) ≤ (v.1 559 18)) → (p_X12_parse_79   (0 : Int32) (v.1 559 20) v)) ∧ (¬ ((v.1 559 17) ≤ (v.1 559 18)) → (p_X12_parse_79   (1 : Int32) (v.1 559 20) v)))))
set_option maxHeartbeats 4000000 in
set_option maxRecDepth 100000 in
theorem w_X12_parse_32 {E : gE} {d : Nat} {Q : gO → gS → Prop}   (hd : 5 ≤ d) : ∀ (n : Nat)  (v : gV), p_X12_parse_32   n  v → gqV Q (f_X12_parse_32  n  v) → gG E m_X12_parse d Q 0 0 (rS v) 32 [(0, .ref (gX E + 559))] [] := by
  intro n
  induction n with
  | zero => intro  v hp; exact hp.elim
  | succ n ih =>
    intro  v hp hQ
    refine g_aload_n 0 dX12_parse_32 rfl ?_
    obtain ⟨h2, hp⟩ := hp
    refine g_callV (rest := []) s_X12_287_X12 rfl (c_X12_mark (E := E) (d := d - 1)   (by omega)  v h2) (by decide : kd 559 = (0, 9)) (show 559 < 572 by decide) rfl rfl (Nat.le_of_ble_eq_true rfl) (by omega) (by decide) (by decide) dX12_parse_33 (adV ?_) axN
    refine g_bipush dX12_parse_36 (59 : Int32) (by decide) ?_
    refine g_icmp_ne 58 dX12_parse_38 (by decide) (fun h3 => ?_) (fun h3 => ?_)
    · have hQ := qn (P := gqV Q) h3 hQ
      have hp := hp.2 h3
      refine g_aload_n 0 dX12_parse_58 rfl ?_
      refine g_dup dX12_parse_59 rfl ?_
      refine r_get (.int (v.1 559 20)) f_X12_72_X12 rfl (by decide : kd 559 = (0, 9)) (show 559 < 572 by decide) dX12_parse_60 (fun _ => rfl) ?_
      refine g_aload_n 0 dX12_parse_63 rfl ?_
      refine r_get (.int (v.1 559 18)) f_X12_66_X12 rfl (by decide : kd 559 = (0, 9)) (show 559 < 572 by decide) dX12_parse_64 (fun _ => rfl) ?_
      refine g_aload_n 0 dX12_parse_67 rfl ?_
      refine r_get (.int (v.1 559 17)) f_X12_63_X12 rfl (by decide : kd 559 = (0, 9)) (show 559 < 572 by decide) dX12_parse_68 (fun _ => rfl) ?_
      refine g_icmp_ge 78 dX12_parse_71 (by decide) (fun h4 => ?_) (fun h4 => ?_)
      · have hQ := qp (P := gqV Q) h4 hQ
        have hp := hp.1 h4
        refine g_iconst dX12_parse_78 (0 : Int32) (by decide) ?_
        refine g_lv (lv' := []) [] rfl ?_
        exact w_X12_parse_79  hd    (0 : Int32) (v.1 559 20) v hp hQ
      · have hQ := qn (P := gqV Q) h4 hQ
        have hp := hp.2 h4
        refine g_iconst dX12_parse_74 (1 : Int32) (by decide) ?_
        refine g_goto 79 dX12_parse_75 (by decide) ?_
        refine g_lv (lv' := []) [] rfl ?_
        exact w_X12_parse_79  hd    (1 : Int32) (v.1 559 20) v hp hQ
    · have hQ := qp (P := gqV Q) h3 hQ
      have hp := hp.1 h3
      refine g_aload_n 0 dX12_parse_41 rfl ?_
      refine g_dup dX12_parse_42 rfl ?_
      refine r_get (.int (v.1 559 18)) f_X12_66_X12 rfl (by decide : kd 559 = (0, 9)) (show 559 < 572 by decide) dX12_parse_43 (fun _ => rfl) ?_
      refine g_iconst dX12_parse_46 (1 : Int32) (by decide) ?_
      refine g_iadd dX12_parse_47 ?_
      refine r_put pf_X12_66_X12 rfl (by decide : kd 559 = (0, 9)) (by decide) (by decide) rfl (show 559 < 572 by decide) rfl rfl dX12_parse_48 ?_
      exact w_X12_parse_51  hd (fun  v => f_X12_parse_32  n  v) (fun  v => p_X12_parse_32   n  v) ih  (vM v 559 18 ((v.1 559 18) + (1 : Int32))) hp hQ
def f_X12_parse_28   (v : gV) : gV := f_X12_parse_32  5000  (f_X12_command  v)
def p_X12_parse_28   (v : gV) : Prop := (p_X12_command  v) ∧ (p_X12_parse_32   5000  (f_X12_command  v))
set_option maxHeartbeats 4000000 in
set_option maxRecDepth 100000 in
theorem w_X12_parse_28 {E : gE} {d : Nat} {Q : gO → gS → Prop}   (hd : 5 ≤ d)  (v : gV) (hp : p_X12_parse_28    v) (hQ : gqV Q (f_X12_parse_28   v)) : gG E m_X12_parse d Q 0 0 (rS v) 28 [(0, .ref (gX E + 559))] [] := by
  refine g_aload_n 0 dX12_parse_28 rfl ?_
  obtain ⟨h1, hp⟩ := hp
  refine g_callV (rest := []) s_X12_320_X12 rfl (c_X12_command (E := E) (d := d - 1)   (by omega)  v h1) (by decide : kd 559 = (0, 9)) (show 559 < 572 by decide) rfl rfl (Nat.le_of_ble_eq_true rfl) (by omega) (by decide) (by decide) dX12_parse_29 (adN ?_) axN
  exact w_X12_parse_32  hd    5000  (f_X12_command  v) hp hQ
def f_X12_parse_23   (v : gV) : gV := f_X12_parse_28   (vM v 559 20 (0 : Int32))
def p_X12_parse_23   (v : gV) : Prop := p_X12_parse_28    (vM v 559 20 (0 : Int32))
set_option maxHeartbeats 4000000 in
set_option maxRecDepth 100000 in
theorem w_X12_parse_23 {E : gE} {d : Nat} {Q : gO → gS → Prop}   (hd : 5 ≤ d)  (v : gV) (hp : p_X12_parse_23    v) (hQ : gqV Q (f_X12_parse_23   v)) : gG E m_X12_parse d Q 0 0 (rS v) 23 [(0, .ref (gX E + 559))] [] := by
  refine g_aload_n 0 dX12_parse_23 rfl ?_
  refine g_iconst dX12_parse_24 (0 : Int32) (by decide) ?_
  refine r_put pf_X12_72_X12 rfl (by decide : kd 559 = (0, 9)) (by decide) (by decide) rfl (show 559 < 572 by decide) rfl rfl dX12_parse_25 ?_
  exact w_X12_parse_28  hd     (vM v 559 20 (0 : Int32)) hp hQ
def f_X12_parse_18   (v : gV) : gV := f_X12_parse_23   (vM v 559 19 (0 : Int32))
def p_X12_parse_18   (v : gV) : Prop := p_X12_parse_23    (vM v 559 19 (0 : Int32))
set_option maxHeartbeats 4000000 in
set_option maxRecDepth 100000 in
theorem w_X12_parse_18 {E : gE} {d : Nat} {Q : gO → gS → Prop}   (hd : 5 ≤ d)  (v : gV) (hp : p_X12_parse_18    v) (hQ : gqV Q (f_X12_parse_18   v)) : gG E m_X12_parse d Q 0 0 (rS v) 18 [(0, .ref (gX E + 559))] [] := by
  refine g_aload_n 0 dX12_parse_18 rfl ?_
  refine g_iconst dX12_parse_19 (0 : Int32) (by decide) ?_
  refine r_put pf_X12_69_X12 rfl (by decide : kd 559 = (0, 9)) (by decide) (by decide) rfl (show 559 < 572 by decide) rfl rfl dX12_parse_20 ?_
  exact w_X12_parse_23  hd     (vM v 559 19 (0 : Int32)) hp hQ
def f_X12_parse_13   (v : gV) : gV := f_X12_parse_18   (vM v 559 18 (0 : Int32))
def p_X12_parse_13   (v : gV) : Prop := p_X12_parse_18    (vM v 559 18 (0 : Int32))
set_option maxHeartbeats 4000000 in
set_option maxRecDepth 100000 in
theorem w_X12_parse_13 {E : gE} {d : Nat} {Q : gO → gS → Prop}   (hd : 5 ≤ d)  (v : gV) (hp : p_X12_parse_13    v) (hQ : gqV Q (f_X12_parse_13   v)) : gG E m_X12_parse d Q 0 0 (rS v) 13 [(0, .ref (gX E + 559))] [] := by
  refine g_aload_n 0 dX12_parse_13 rfl ?_
  refine g_iconst dX12_parse_14 (0 : Int32) (by decide) ?_
  refine r_put pf_X12_66_X12 rfl (by decide : kd 559 = (0, 9)) (by decide) (by decide) rfl (show 559 < 572 by decide) rfl rfl dX12_parse_15 ?_
  exact w_X12_parse_18  hd     (vM v 559 18 (0 : Int32)) hp hQ
def f_X12_parse_8   (v : gV) : gV := f_X12_parse_13   (vM v 559 16 (0 : Int32))
def p_X12_parse_8   (v : gV) : Prop := p_X12_parse_13    (vM v 559 16 (0 : Int32))
set_option maxHeartbeats 4000000 in
set_option maxRecDepth 100000 in
theorem w_X12_parse_8 {E : gE} {d : Nat} {Q : gO → gS → Prop}   (hd : 5 ≤ d)  (v : gV) (hp : p_X12_parse_8    v) (hQ : gqV Q (f_X12_parse_8   v)) : gG E m_X12_parse d Q 0 0 (rS v) 8 [(0, .ref (gX E + 559))] [] := by
  refine g_aload_n 0 dX12_parse_8 rfl ?_
  refine g_iconst dX12_parse_9 (0 : Int32) (by decide) ?_
  refine r_put pf_X12_60_X12 rfl (by decide : kd 559 = (0, 9)) (by decide) (by decide) rfl (show 559 < 572 by decide) rfl rfl dX12_parse_10 ?_
  exact w_X12_parse_13  hd     (vM v 559 16 (0 : Int32)) hp hQ
def f_X12_parse_0   (v : gV) : gV := f_X12_parse_8   (vM v 559 17 (v.1 559 16))
def p_X12_parse_0   (v : gV) : Prop := p_X12_parse_8    (vM v 559 17 (v.1 559 16))
set_option maxHeartbeats 4000000 in
set_option maxRecDepth 100000 in
theorem w_X12_parse_0 {E : gE} {d : Nat} {Q : gO → gS → Prop}   (hd : 5 ≤ d)  (v : gV) (hp : p_X12_parse_0    v) (hQ : gqV Q (f_X12_parse_0   v)) : gG E m_X12_parse d Q 0 0 (rS v) 0 [(0, .ref (gX E + 559))] [] := by
  refine g_aload_n 0 dX12_parse_0 rfl ?_
  refine g_aload_n 0 dX12_parse_1 rfl ?_
  refine r_get (.int (v.1 559 16)) f_X12_60_X12 rfl (by decide : kd 559 = (0, 9)) (show 559 < 572 by decide) dX12_parse_2 (fun _ => rfl) ?_
  refine r_put pf_X12_63_X12 rfl (by decide : kd 559 = (0, 9)) (by decide) (by decide) rfl (show 559 < 572 by decide) rfl rfl dX12_parse_5 ?_
  exact w_X12_parse_8  hd     (vM v 559 17 (v.1 559 16)) hp hQ
def f_X12_parse   (v : gV) : gV := f_X12_parse_0  v
def p_X12_parse   (v : gV) : Prop := p_X12_parse_0  v
theorem c_X12_parse {E : gE} {d : Nat}   (hd : 5 ≤ d)  (v : gV) (hp : p_X12_parse  v) : CT E m_X12_parse d 0 0 [.ref (gX E + 559)] (rS v) (Cq (.inl none) (f_X12_parse  v)) := CT.of ok_X12_parse rfl (Nat.le_of_ble_eq_true rfl) (w_X12_parse_0  hd  v hp ⟨rfl, rfl⟩)
def f_X12_does_60  (s0 : Int32) (v : gV) : Int32 × gV := (s0, v)
def p_X12_does_60  (s0 : Int32) (v : gV) : Prop := True
set_option maxHeartbeats 4000000 in
set_option maxRecDepth 100000 in
theorem w_X12_does_60 {E : gE} {d : Nat} {Q : gO → gS → Prop}   (hd : 4 ≤ d) (s0 : Int32) (v : gV) (hp : p_X12_does_60   s0 v) (hQ : gqIV Q (f_X12_does_60  s0 v)) : gG E m_X12_does d Q 0 0 (rS v) 60 [] [.int s0] := by
  exact g_iret rfl dX12_does_60 hQ
def f_X12_does_66  (s0 : Int32) (v : gV) : Int32 × gV := (s0, v)
def p_X12_does_66  (s0 : Int32) (v : gV) : Prop := True
set_option maxHeartbeats 4000000 in
set_option maxRecDepth 100000 in
theorem w_X12_does_66 {E : gE} {d : Nat} {Q : gO → gS → Prop}   (hd : 4 ≤ d) (s0 : Int32) (v : gV) (hp : p_X12_does_66   s0 v) (hQ : gqIV Q (f_X12_does_66  s0 v)) : gG E m_X12_does d Q 0 0 (rS v) 66 [] [.int s0] := by
  exact g_iret rfl dX12_does_66 hQ
def f_X12_does_77  (s0 : Int32) (v : gV) : Int32 × gV := (s0, v)
def p_X12_does_77  (s0 : Int32) (v : gV) : Prop := True
set_option maxHeartbeats 4000000 in
set_option maxRecDepth 100000 in
theorem w_X12_does_77 {E : gE} {d : Nat} {Q : gO → gS → Prop}   (hd : 4 ≤ d) (s0 : Int32) (v : gV) (hp : p_X12_does_77   s0 v) (hQ : gqIV Q (f_X12_does_77  s0 v)) : gG E m_X12_does d Q 0 0 (rS v) 77 [] [.int s0] := by
  exact g_iret rfl dX12_does_77 hQ
def f_X12_does_83  (s0 : Int32) (v : gV) : Int32 × gV := (s0, v)
def p_X12_does_83  (s0 : Int32) (v : gV) : Prop := True
set_option maxHeartbeats 4000000 in
set_option maxRecDepth 100000 in
theorem w_X12_does_83 {E : gE} {d : Nat} {Q : gO → gS → Prop}   (hd : 4 ≤ d) (s0 : Int32) (v : gV) (hp : p_X12_does_83   s0 v) (hQ : gqIV Q (f_X12_does_83  s0 v)) : gG E m_X12_does d Q 0 0 (rS v) 83 [] [.int s0] := by
  exact g_iret rfl dX12_does_83 hQ
def f_X12_does_92  (s0 : Int32) (v : gV) : Int32 × gV := (s0, v)
def p_X12_does_92  (s0 : Int32) (v : gV) : Prop := True
set_option maxHeartbeats 4000000 in
set_option maxRecDepth 100000 in
theorem w_X12_does_92 {E : gE} {d : Nat} {Q : gO → gS → Prop}   (hd : 4 ≤ d) (s0 : Int32) (v : gV) (hp : p_X12_does_92   s0 v) (hQ : gqIV Q (f_X12_does_92  s0 v)) : gG E m_X12_does d Q 0 0 (rS v) 92 [] [.int s0] := by
  exact g_iret rfl dX12_does_92 hQ
def f_X12_does_99  (s0 : Int32) (v : gV) : Int32 × gV := (s0, v)
def p_X12_does_99  (s0 : Int32) (v : gV) : Prop := True
set_option maxHeartbeats 4000000 in
set_option maxRecDepth 100000 in
theorem w_X12_does_99 {E : gE} {d : Nat} {Q : gO → gS → Prop}   (hd : 4 ≤ d) (s0 : Int32) (v : gV) (hp : p_X12_does_99   s0 v) (hQ : gqIV Q (f_X12_does_99  s0 v)) : gG E m_X12_does d Q 0 0 (rS v) 99 [] [.int s0] := by
  exact g_iret rfl dX12_does_99 hQ
def f_X12_does_109  (s0 : Int32) (v : gV) : Int32 × gV := (s0, v)
def p_X12_does_109  (s0 : Int32) (v : gV) : Prop := True
set_option maxHeartbeats 4000000 in
set_option maxRecDepth 100000 in
theorem w_X12_does_109 {E : gE} {d : Nat} {Q : gO → gS → Prop}   (hd : 4 ≤ d) (s0 : Int32) (v : gV) (hp : p_X12_does_109   s0 v) (hQ : gqIV Q (f_X12_does_109  s0 v)) : gG E m_X12_does d Q 0 0 (rS v) 109 [] [.int s0] := by
  exact g_iret rfl dX12_does_109 hQ
def f_X12_does_115  (s0 : Int32) (v : gV) : Int32 × gV := (s0, v)
def p_X12_does_115  (s0 : Int32) (v : gV) : Prop := True
set_option maxHeartbeats 4000000 in
set_option maxRecDepth 100000 in
theorem w_X12_does_115 {E : gE} {d : Nat} {Q : gO → gS → Prop}   (hd : 4 ≤ d) (s0 : Int32) (v : gV) (hp : p_X12_does_115   s0 v) (hQ : gqIV Q (f_X12_does_115  s0 v)) : gG E m_X12_does d Q 0 0 (rS v) 115 [] [.int s0] := by
  exact g_iret rfl dX12_does_115 hQ
def f_X12_does_124  (s0 : Int32) (v : gV) : Int32 × gV := (s0, v)
def p_X12_does_124  (s0 : Int32) (v : gV) : Prop := True
set_option maxHeartbeats 4000000 in
set_option maxRecDepth 100000 in
theorem w_X12_does_124 {E : gE} {d : Nat} {Q : gO → gS → Prop}   (hd : 4 ≤ d) (s0 : Int32) (v : gV) (hp : p_X12_does_124   s0 v) (hQ : gqIV Q (f_X12_does_124  s0 v)) : gG E m_X12_does d Q 0 0 (rS v) 124 [] [.int s0] := by
  exact g_iret rfl dX12_does_124 hQ
def f_X12_does_130  (s0 : Int32) (v : gV) : Int32 × gV := (s0, v)
def p_X12_does_130  (s0 : Int32) (v : gV) : Prop := True
set_option maxHeartbeats 4000000 in
set_option maxRecDepth 100000 in
theorem w_X12_does_130 {E : gE} {d : Nat} {Q : gO → gS → Prop}   (hd : 4 ≤ d) (s0 : Int32) (v : gV) (hp : p_X12_does_130   s0 v) (hQ : gqIV Q (f_X12_does_130  s0 v)) : gG E m_X12_does d Q 0 0 (rS v) 130 [] [.int s0] := by
  exact g_iret rfl dX12_does_130 hQ
def f_X12_does_0  (x1 : Int32) (x2 : Int32) (x3 : Int32) (x4 : Int32) (x5 : Int32) (v : gV) : Int32 × gV := if x1 = 0 then (f_X12_does_60  ((f_X12_insures x2 x3 x4 v).1) (f_X12_insures x2 x3 x4 v).2) else (if x1 = 1 then (f_X12_does_66  ((f_X12_ends x2 v).1) (f_X12_ends x2 v).2) else (if x1 = 2 then (f_X12_does_77  ((f_X12_treats x2 x3 x4 x5 v).1) (f_X12_treats x2 x3 x4 x5 v).2) else (if x1 = 3 then (f_X12_does_83  ((f_X12_voids x2 v).1) (f_X12_voids x2 v).2) else (if x1 = 4 then (f_X12_does_92  ((f_X12_claims x2 x3 x4 v).1) (f_X12_claims x2 x3 x4 v).2) else (if x1 = 5 then (f_X12_does_99  ((f_X12_pays x2 x3 v).1) (f_X12_pays x2 x3 v).2) else (if x1 = 6 then (f_X12_does_109  ((f_X12_removesClaim (f_X12_claim x2 v) v).1) (f_X12_removesClaim (f_X12_claim x2 v) v).2) else (if x1 = 7 then (f_X12_does_115  ((f_X12_waives x2 v).1) (f_X12_waives x2 v).2) else (if x1 = 8 then (f_X12_does_124  ((f_X12_offers x2 x3 x4 v).1) (f_X12_offers x2 x3 x4 v).2) else (f_X12_does_130  ((f_X12_passes x2 v).1) (f_X12_passes x2 v).2)))))))))
def p_X12_does_0  (x1 : Int32) (x2 : Int32) (x3 : Int32) (x4 : Int32) (x5 : Int32) (v : gV) : Prop := ((x1 = 0) → ((p_X12_insures x2 x3 x4 v) ∧ (p_X12_does_60   ((f_X12_insures x2 x3 x4 v).1) (f_X12_insures x2 x3 x4 v).2))) ∧ (¬ (x1 = 0) → (((x1 = 1) → ((p_X12_ends x2 v) ∧ (p_X12_does_66   ((f_X12_ends x2 v).1) (f_X12_ends x2 v).2))) ∧ (¬ (x1 = 1) → (((x1 = 2) → ((p_X12_treats x2 x3 x4 x5 v) ∧ (p_X12_does_77   ((f_X12_treats x2 x3 x4 x5 v).1) (f_X12_treats x2 x3 x4 x5 v).2))) ∧ (¬ (x1 = 2) → (((x1 = 3) → ((p_X12_voids x2 v) ∧ (p_X12_does_83   ((f_X12_voids x2 v).1) (f_X12_voids x2 v).2))) ∧ (¬ (x1 = 3) → (((x1 = 4) → ((p_X12_claims x2 x3 x4 v) ∧ (p_X12_does_92   ((f_X12_claims x2 x3 x4 v).1) (f_X12_claims x2 x3 x4 v).2))) ∧ (¬ (x1 = 4) → (((x1 = 5) → ((p_X12_pays x2 x3 v) ∧ (p_X12_does_99   ((f_X12_pays x2 x3 v).1) (f_X12_pays x2 x3 v).2))) ∧ (¬ (x1 = 5) → (((x1 = 6) → ((p_X12_claim x2 v) ∧ ((p_X12_removesClaim (f_X12_claim x2 v) v) ∧ (p_X12_does_109   ((f_X12_removesClaim (f_X12_claim x2 v) v).1) (f_X12_removesClaim (f_X12_claim x2 v) v).2)))) ∧ (¬ (x1 = 6) → (((x1 = 7) → ((p_X12_waives x2 v) ∧ (p_X12_does_115   ((f_X12_waives x2 v).1) (f_X12_waives x2 v).2))) ∧ (¬ (x1 = 7) → (((x1 = 8) → ((p_X12_offers x2 x3 x4 v) ∧ (p_X12_does_124   ((f_X12_offers x2 x3 x4 v).1) (f_X12_offers x2 x3 x4 v).2))) ∧ (¬ (x1 = 8) → ((p_X12_passes x2 v) ∧ (p_X12_does_130   ((f_X12_passes x2 v).1) (f_X12_passes x2 v).2)))))))))))))))))))
set_option maxHeartbeats 4000000 in
set_option maxRecDepth 100000 in
theorem w_X12_does_0 {E : gE} {d : Nat} {Q : gO → gS → Prop}   (hd : 4 ≤ d) (x1 : Int32) (x2 : Int32) (x3 : Int32) (x4 : Int32) (x5 : Int32) (v : gV) (hp : p_X12_does_0   x1 x2 x3 x4 x5 v) (hQ : gqIV Q (f_X12_does_0  x1 x2 x3 x4 x5 v)) : gG E m_X12_does d Q 0 0 (rS v) 0 [(0, .ref (gX E + 559)), (1, .int x1), (2, .int x2), (3, .int x3), (4, .int x4), (5, .int x5)] [] := by
  refine g_iload_n 1 dX12_does_0 rfl ?_
  by_cases h1 : x1 = 0
  · have hQ := qp (P := gqIV Q) h1 hQ
    have hp := hp.1 h1
    refine g_tableIn 52 dX12_does_1 (by rw [h1]; decide) (by rw [h1]; decide) (by rw [h1]; rfl) (by decide) ?_
    refine g_aload_n 0 dX12_does_52 rfl ?_
    refine g_iload_n 2 dX12_does_53 rfl ?_
    refine g_iload_n 3 dX12_does_54 rfl ?_
    refine g_iload 4 dX12_does_55 rfl ?_
    obtain ⟨h2, hp⟩ := hp
    refine g_callV (rest := []) s_X12_98_X12 rfl (c_X12_insures (E := E) (d := d - 1)   (by omega) x2 x3 x4 v h2) (by decide : kd 559 = (0, 9)) (show 559 < 572 by decide) rfl rfl (Nat.le_of_ble_eq_true rfl) (by omega) (by decide) (by decide) dX12_does_57 (adV ?_) axN
    refine g_lv (lv' := []) [] rfl ?_
    exact w_X12_does_60  hd    ((f_X12_insures x2 x3 x4 v).1) (f_X12_insures x2 x3 x4 v).2 hp hQ
  have hQ := qn (P := gqIV Q) h1 hQ
  have hp := hp.2 h1
  by_cases h3 : x1 = 1
  · have hQ := qp (P := gqIV Q) h3 hQ
    have hp := hp.1 h3
    refine g_tableIn 61 dX12_does_1 (by rw [h3]; decide) (by rw [h3]; decide) (by rw [h3]; rfl) (by decide) ?_
    refine g_aload_n 0 dX12_does_61 rfl ?_
    refine g_iload_n 2 dX12_does_62 rfl ?_
    obtain ⟨h4, hp⟩ := hp
    refine g_callV (rest := []) s_X12_124_X12 rfl (c_X12_ends (E := E) (d := d - 1)   (by omega) x2 v h4) (by decide : kd 559 = (0, 9)) (show 559 < 572 by decide) rfl rfl (Nat.le_of_ble_eq_true rfl) (by omega) (by decide) (by decide) dX12_does_63 (adV ?_) axN
    refine g_lv (lv' := []) [] rfl ?_
    exact w_X12_does_66  hd    ((f_X12_ends x2 v).1) (f_X12_ends x2 v).2 hp hQ
  have hQ := qn (P := gqIV Q) h3 hQ
  have hp := hp.2 h3
  by_cases h5 : x1 = 2
  · have hQ := qp (P := gqIV Q) h5 hQ
    have hp := hp.1 h5
    refine g_tableIn 67 dX12_does_1 (by rw [h5]; decide) (by rw [h5]; decide) (by rw [h5]; rfl) (by decide) ?_
    refine g_aload_n 0 dX12_does_67 rfl ?_
    refine g_iload_n 2 dX12_does_68 rfl ?_
    refine g_iload_n 3 dX12_does_69 rfl ?_
    refine g_iload 4 dX12_does_70 rfl ?_
    refine g_iload 5 dX12_does_72 rfl ?_
    obtain ⟨h6, hp⟩ := hp
    refine g_callV (rest := []) s_X12_131_X12 rfl (c_X12_treats (E := E) (d := d - 1)   (by omega) x2 x3 x4 x5 v h6) (by decide : kd 559 = (0, 9)) (show 559 < 572 by decide) rfl rfl (Nat.le_of_ble_eq_true rfl) (by omega) (by decide) (by decide) dX12_does_74 (adV ?_) axN
    refine g_lv (lv' := []) [] rfl ?_
    exact w_X12_does_77  hd    ((f_X12_treats x2 x3 x4 x5 v).1) (f_X12_treats x2 x3 x4 x5 v).2 hp hQ
  have hQ := qn (P := gqIV Q) h5 hQ
  have hp := hp.2 h5
  by_cases h7 : x1 = 3
  · have hQ := qp (P := gqIV Q) h7 hQ
    have hp := hp.1 h7
    refine g_tableIn 78 dX12_does_1 (by rw [h7]; decide) (by rw [h7]; decide) (by rw [h7]; rfl) (by decide) ?_
    refine g_aload_n 0 dX12_does_78 rfl ?_
    refine g_iload_n 2 dX12_does_79 rfl ?_
    obtain ⟨h8, hp⟩ := hp
    refine g_callV (rest := []) s_X12_143_X12 rfl (c_X12_voids (E := E) (d := d - 1)   (by omega) x2 v h8) (by decide : kd 559 = (0, 9)) (show 559 < 572 by decide) rfl rfl (Nat.le_of_ble_eq_true rfl) (by omega) (by decide) (by decide) dX12_does_80 (adV ?_) axN
    refine g_lv (lv' := []) [] rfl ?_
    exact w_X12_does_83  hd    ((f_X12_voids x2 v).1) (f_X12_voids x2 v).2 hp hQ
  have hQ := qn (P := gqIV Q) h7 hQ
  have hp := hp.2 h7
  by_cases h9 : x1 = 4
  · have hQ := qp (P := gqIV Q) h9 hQ
    have hp := hp.1 h9
    refine g_tableIn 84 dX12_does_1 (by rw [h9]; decide) (by rw [h9]; decide) (by rw [h9]; rfl) (by decide) ?_
    refine g_aload_n 0 dX12_does_84 rfl ?_
    refine g_iload_n 2 dX12_does_85 rfl ?_
    refine g_iload_n 3 dX12_does_86 rfl ?_
    refine g_iload 4 dX12_does_87 rfl ?_
    obtain ⟨h10, hp⟩ := hp
    refine g_callV (rest := []) s_X12_164_X12 rfl (c_X12_claims (E := E) (d := d - 1)   (by omega) x2 x3 x4 v h10) (by decide : kd 559 = (0, 9)) (show 559 < 572 by decide) rfl rfl (Nat.le_of_ble_eq_true rfl) (by omega) (by decide) (by decide) dX12_does_89 (adV ?_) axN
    refine g_lv (lv' := []) [] rfl ?_
    exact w_X12_does_92  hd    ((f_X12_claims x2 x3 x4 v).1) (f_X12_claims x2 x3 x4 v).2 hp hQ
  have hQ := qn (P := gqIV Q) h9 hQ
  have hp := hp.2 h9
  by_cases h11 : x1 = 5
  · have hQ := qp (P := gqIV Q) h11 hQ
    have hp := hp.1 h11
    refine g_tableIn 93 dX12_does_1 (by rw [h11]; decide) (by rw [h11]; decide) (by rw [h11]; rfl) (by decide) ?_
    refine g_aload_n 0 dX12_does_93 rfl ?_
    refine g_iload_n 2 dX12_does_94 rfl ?_
    refine g_iload_n 3 dX12_does_95 rfl ?_
    obtain ⟨h12, hp⟩ := hp
    refine g_callV (rest := []) s_X12_176_X12 rfl (c_X12_pays (E := E) (d := d - 1)   (by omega) x2 x3 v h12) (by decide : kd 559 = (0, 9)) (show 559 < 572 by decide) rfl rfl (Nat.le_of_ble_eq_true rfl) (by omega) (by decide) (by decide) dX12_does_96 (adV ?_) axN
    refine g_lv (lv' := []) [] rfl ?_
    exact w_X12_does_99  hd    ((f_X12_pays x2 x3 v).1) (f_X12_pays x2 x3 v).2 hp hQ
  have hQ := qn (P := gqIV Q) h11 hQ
  have hp := hp.2 h11
  by_cases h13 : x1 = 6
  · have hQ := qp (P := gqIV Q) h13 hQ
    have hp := hp.1 h13
    refine g_tableIn 100 dX12_does_1 (by rw [h13]; decide) (by rw [h13]; decide) (by rw [h13]; rfl) (by decide) ?_
    refine g_aload_n 0 dX12_does_100 rfl ?_
    refine g_aload_n 0 dX12_does_101 rfl ?_
    refine g_iload_n 2 dX12_does_102 rfl ?_
    obtain ⟨h14, hp⟩ := hp
    refine g_callV (rest := [.ref (gX E + 559)]) s_X12_167_X12 rfl (c_X12_claim (E := E) (d := d - 1)   (by omega) x2 v h14) (by decide : kd 559 = (0, 9)) (show 559 < 572 by decide) rfl rfl (Nat.le_of_ble_eq_true rfl) (by omega) (by decide) (by decide) dX12_does_103 (adV ?_) axN
    obtain ⟨h15, hp⟩ := hp
    refine g_callV (rest := []) s_X12_182_X12 rfl (c_X12_removesClaim (E := E) (d := d - 1)   (by omega) (f_X12_claim x2 v) v h15) (by decide : kd 559 = (0, 9)) (show 559 < 572 by decide) rfl rfl (Nat.le_of_ble_eq_true rfl) (by omega) (by decide) (by decide) dX12_does_106 (adV ?_) axN
    refine g_lv (lv' := []) [] rfl ?_
    exact w_X12_does_109  hd    ((f_X12_removesClaim (f_X12_claim x2 v) v).1) (f_X12_removesClaim (f_X12_claim x2 v) v).2 hp hQ
  have hQ := qn (P := gqIV Q) h13 hQ
  have hp := hp.2 h13
  by_cases h16 : x1 = 7
  · have hQ := qp (P := gqIV Q) h16 hQ
    have hp := hp.1 h16
    refine g_tableIn 110 dX12_does_1 (by rw [h16]; decide) (by rw [h16]; decide) (by rw [h16]; rfl) (by decide) ?_
    refine g_aload_n 0 dX12_does_110 rfl ?_
    refine g_iload_n 2 dX12_does_111 rfl ?_
    obtain ⟨h17, hp⟩ := hp
    refine g_callV (rest := []) s_X12_188_X12 rfl (c_X12_waives (E := E) (d := d - 1)   (by omega) x2 v h17) (by decide : kd 559 = (0, 9)) (show 559 < 572 by decide) rfl rfl (Nat.le_of_ble_eq_true rfl) (by omega) (by decide) (by decide) dX12_does_112 (adV ?_) axN
    refine g_lv (lv' := []) [] rfl ?_
    exact w_X12_does_115  hd    ((f_X12_waives x2 v).1) (f_X12_waives x2 v).2 hp hQ
  have hQ := qn (P := gqIV Q) h16 hQ
  have hp := hp.2 h16
  by_cases h18 : x1 = 8
  · have hQ := qp (P := gqIV Q) h18 hQ
    have hp := hp.1 h18
    refine g_tableIn 116 dX12_does_1 (by rw [h18]; decide) (by rw [h18]; decide) (by rw [h18]; rfl) (by decide) ?_
    refine g_aload_n 0 dX12_does_116 rfl ?_
    refine g_iload_n 2 dX12_does_117 rfl ?_
    refine g_iload_n 3 dX12_does_118 rfl ?_
    refine g_iload 4 dX12_does_119 rfl ?_
    obtain ⟨h19, hp⟩ := hp
    refine g_callV (rest := []) s_X12_198_X12 rfl (c_X12_offers (E := E) (d := d - 1)   (by omega) x2 x3 x4 v h19) (by decide : kd 559 = (0, 9)) (show 559 < 572 by decide) rfl rfl (Nat.le_of_ble_eq_true rfl) (by omega) (by decide) (by decide) dX12_does_121 (adV ?_) axN
    refine g_lv (lv' := []) [] rfl ?_
    exact w_X12_does_124  hd    ((f_X12_offers x2 x3 x4 v).1) (f_X12_offers x2 x3 x4 v).2 hp hQ
  have hQ := qn (P := gqIV Q) h18 hQ
  have hp := hp.2 h18
  refine g_tableOut 125 dX12_does_1 (gsw_out [0, 1, 2, 3, 4, 5, 6, 7, 8] x1 (by decide) ⟨h1, h3, h5, h7, h9, h11, h13, h16, h18, trivial⟩) (by decide) ?_
  refine g_aload_n 0 dX12_does_125 rfl ?_
  refine g_iload_n 2 dX12_does_126 rfl ?_
  obtain ⟨h20, hp⟩ := hp
  refine g_callV (rest := []) s_X12_207_X12 rfl (c_X12_passes (E := E) (d := d - 1)   (by omega) x2 v h20) (by decide : kd 559 = (0, 9)) (show 559 < 572 by decide) rfl rfl (Nat.le_of_ble_eq_true rfl) (by omega) (by decide) (by decide) dX12_does_127 (adV ?_) axN
  refine g_lv (lv' := []) [] rfl ?_
  exact w_X12_does_130  hd    ((f_X12_passes x2 v).1) (f_X12_passes x2 v).2 hp hQ
def f_X12_does  (x1 : Int32) (x2 : Int32) (x3 : Int32) (x4 : Int32) (x5 : Int32) (v : gV) : Int32 × gV := f_X12_does_0 x1 x2 x3 x4 x5 v
def p_X12_does  (x1 : Int32) (x2 : Int32) (x3 : Int32) (x4 : Int32) (x5 : Int32) (v : gV) : Prop := p_X12_does_0 x1 x2 x3 x4 x5 v
theorem c_X12_does {E : gE} {d : Nat}   (hd : 4 ≤ d) (x1 : Int32) (x2 : Int32) (x3 : Int32) (x4 : Int32) (x5 : Int32) (v : gV) (hp : p_X12_does x1 x2 x3 x4 x5 v) : CT E m_X12_does d 0 0 [.ref (gX E + 559), .int x1, .int x2, .int x3, .int x4, .int x5] (rS v) (Cq (.inl (some (.int ((f_X12_does x1 x2 x3 x4 x5 v).1)))) (f_X12_does x1 x2 x3 x4 x5 v).2) := CT.of ok_X12_does rfl (Nat.le_of_ble_eq_true rfl) (w_X12_does_0  hd x1 x2 x3 x4 x5 v hp ⟨rfl, rfl⟩)
def f_X12_present_21  (s0 : Int32) (v : gV) : Int32 × gV := (s0, v)
def p_X12_present_21  (s0 : Int32) (v : gV) : Prop := True
set_option maxHeartbeats 4000000 in
set_option maxRecDepth 100000 in
theorem w_X12_present_21 {E : gE} {d : Nat} {Q : gO → gS → Prop}   (hd : 1 ≤ d) (s0 : Int32) (v : gV) (hp : p_X12_present_21   s0 v) (hQ : gqIV Q (f_X12_present_21  s0 v)) : gG E m_X12_present d Q 0 0 (rS v) 21 [] [.int s0] := by
  exact g_iret rfl dX12_present_21 hQ
def f_X12_present_13  (x1 : Int32) (s0 : Int32) (v : gV) : Int32 × gV := if s0 ≤ 0 then (f_X12_present_21  x1 v) else (f_X12_present_21  (0 : Int32) v)
def p_X12_present_13  (x1 : Int32) (s0 : Int32) (v : gV) : Prop := ((s0 ≤ 0) → (p_X12_present_21   x1 v)) ∧ (¬ (s0 ≤ 0) → (p_X12_present_21   (0 : Int32) v))
set_option maxHeartbeats 4000000 in
set_option maxRecDepth 100000 in
theorem w_X12_present_13 {E : gE} {d : Nat} {Q : gO → gS → Prop}   (hd : 1 ≤ d) (x1 : Int32) (s0 : Int32) (v : gV) (hp : p_X12_present_13   x1 s0 v) (hQ : gqIV Q (f_X12_present_13  x1 s0 v)) : gG E m_X12_present d Q 0 0 (rS v) 13 [(1, .int x1)] [.int s0] := by
  refine g_if_le 20 dX12_present_13 (by decide) (fun h3 => ?_) (fun h3 => ?_)
  · have hQ := qp (P := gqIV Q) h3 hQ
    have hp := hp.1 h3
    refine g_iload_n 0 dX12_present_20 rfl ?_
    refine g_lv (lv' := []) [] rfl ?_
    exact w_X12_present_21  hd    x1 v hp hQ
  · have hQ := qn (P := gqIV Q) h3 hQ
    have hp := hp.2 h3
    refine g_iconst dX12_present_16 (0 : Int32) (by decide) ?_
    refine g_goto 21 dX12_present_17 (by decide) ?_
    refine g_lv (lv' := []) [] rfl ?_
    exact w_X12_present_21  hd    (0 : Int32) v hp hQ
def f_X12_present_10  (x1 : Int32) (s0 : Int32) (v : gV) : Int32 × gV := f_X12_present_13  x1 ((f_X12_checked s0 v).1) (f_X12_checked s0 v).2
def p_X12_present_10  (x1 : Int32) (s0 : Int32) (v : gV) : Prop := (p_X12_checked s0 v) ∧ (p_X12_present_13   x1 ((f_X12_checked s0 v).1) (f_X12_checked s0 v).2)
set_option maxHeartbeats 4000000 in
set_option maxRecDepth 100000 in
theorem w_X12_present_10 {E : gE} {d : Nat} {Q : gO → gS → Prop}   (hd : 1 ≤ d) (x1 : Int32) (s0 : Int32) (v : gV) (hp : p_X12_present_10   x1 s0 v) (hQ : gqIV Q (f_X12_present_10  x1 s0 v)) : gG E m_X12_present d Q 0 0 (rS v) 10 [(1, .int x1)] [.int s0, .ref (gX E + 559)] := by
  obtain ⟨h2, hp⟩ := hp
  refine g_callV (rest := []) s_X12_213_X12 rfl (c_X12_checked (E := E) (d := d - 1)   (by omega) s0 v h2) (by decide : kd 559 = (0, 9)) (show 559 < 572 by decide) rfl rfl (Nat.le_of_ble_eq_true rfl) (by omega) (by decide) (by decide) dX12_present_10 (adV ?_) axN
  exact w_X12_present_13  hd    x1 ((f_X12_checked s0 v).1) (f_X12_checked s0 v).2 hp hQ
def f_X12_present_0  (x1 : Int32) (v : gV) : Int32 × gV := if x1 < 0 then (f_X12_present_10  x1 (0 : Int32) v) else (f_X12_present_10  x1 (1 : Int32) v)
def p_X12_present_0  (x1 : Int32) (v : gV) : Prop := ((x1 < 0) → (p_X12_present_10   x1 (0 : Int32) v)) ∧ (¬ (x1 < 0) → (p_X12_present_10   x1 (1 : Int32) v))
set_option maxHeartbeats 4000000 in
set_option maxRecDepth 100000 in
theorem w_X12_present_0 {E : gE} {d : Nat} {Q : gO → gS → Prop}   (hd : 1 ≤ d) (x1 : Int32) (v : gV) (hp : p_X12_present_0   x1 v) (hQ : gqIV Q (f_X12_present_0  x1 v)) : gG E m_X12_present d Q 0 0 (rS v) 0 [(0, .ref (gX E + 559)), (1, .int x1)] [] := by
  refine g_aload_n 0 dX12_present_0 rfl ?_
  refine g_iload_n 1 dX12_present_1 rfl ?_
  refine g_if_lt 9 dX12_present_2 (by decide) (fun h1 => ?_) (fun h1 => ?_)
  · have hQ := qp (P := gqIV Q) h1 hQ
    have hp := hp.1 h1
    refine g_iconst dX12_present_9 (0 : Int32) (by decide) ?_
    refine g_lv (lv' := [(1, .int x1)]) [1] rfl ?_
    exact w_X12_present_10  hd    x1 (0 : Int32) v hp hQ
  · have hQ := qn (P := gqIV Q) h1 hQ
    have hp := hp.2 h1
    refine g_iconst dX12_present_5 (1 : Int32) (by decide) ?_
    refine g_goto 10 dX12_present_6 (by decide) ?_
    refine g_lv (lv' := [(1, .int x1)]) [1] rfl ?_
    exact w_X12_present_10  hd    x1 (1 : Int32) v hp hQ
def f_X12_present  (x1 : Int32) (v : gV) : Int32 × gV := f_X12_present_0 x1 v
def p_X12_present  (x1 : Int32) (v : gV) : Prop := p_X12_present_0 x1 v
theorem c_X12_present {E : gE} {d : Nat}   (hd : 1 ≤ d) (x1 : Int32) (v : gV) (hp : p_X12_present x1 v) : CT E m_X12_present d 0 0 [.ref (gX E + 559), .int x1] (rS v) (Cq (.inl (some (.int ((f_X12_present x1 v).1)))) (f_X12_present x1 v).2) := CT.of ok_X12_present rfl (Nat.le_of_ble_eq_true rfl) (w_X12_present_0  hd x1 v hp ⟨rfl, rfl⟩)
def f_X12_errorPosition_8  (s0 : Int32) (v : gV) : Int32 × gV := (s0, v)
def p_X12_errorPosition_8  (s0 : Int32) (v : gV) : Prop := True
set_option maxHeartbeats 4000000 in
set_option maxRecDepth 100000 in
theorem w_X12_errorPosition_8 {E : gE} {d : Nat} {Q : gO → gS → Prop}   (hd : 2 ≤ d) (s0 : Int32) (v : gV) (hp : p_X12_errorPosition_8   s0 v) (hQ : gqIV Q (f_X12_errorPosition_8  s0 v)) : gG E m_X12_errorPosition d Q 0 0 (rS v) 8 [] [.int s0] := by
  exact g_iret rfl dX12_errorPosition_8 hQ
def f_X12_errorPosition_0   (v : gV) : Int32 × gV := f_X12_errorPosition_8  ((f_X12_present (v.1 559 8) v).1) (f_X12_present (v.1 559 8) v).2
def p_X12_errorPosition_0   (v : gV) : Prop := (p_X12_present (v.1 559 8) v) ∧ (p_X12_errorPosition_8   ((f_X12_present (v.1 559 8) v).1) (f_X12_present (v.1 559 8) v).2)
set_option maxHeartbeats 4000000 in
set_option maxRecDepth 100000 in
theorem w_X12_errorPosition_0 {E : gE} {d : Nat} {Q : gO → gS → Prop}   (hd : 2 ≤ d)  (v : gV) (hp : p_X12_errorPosition_0    v) (hQ : gqIV Q (f_X12_errorPosition_0   v)) : gG E m_X12_errorPosition d Q 0 0 (rS v) 0 [(0, .ref (gX E + 559))] [] := by
  refine g_aload_n 0 dX12_errorPosition_0 rfl ?_
  refine g_aload_n 0 dX12_errorPosition_1 rfl ?_
  refine r_get (.int (v.1 559 8)) f_X12_35_X12 rfl (by decide : kd 559 = (0, 9)) (show 559 < 572 by decide) dX12_errorPosition_2 (fun _ => rfl) ?_
  obtain ⟨h1, hp⟩ := hp
  refine g_callV (rest := []) s_X12_333_X12 rfl (c_X12_present (E := E) (d := d - 1)   (by omega) (v.1 559 8) v h1) (by decide : kd 559 = (0, 9)) (show 559 < 572 by decide) rfl rfl (Nat.le_of_ble_eq_true rfl) (by omega) (by decide) (by decide) dX12_errorPosition_5 (adV ?_) axN
  refine g_lv (lv' := []) [] rfl ?_
  exact w_X12_errorPosition_8  hd    ((f_X12_present (v.1 559 8) v).1) (f_X12_present (v.1 559 8) v).2 hp hQ
def f_X12_errorPosition   (v : gV) : Int32 × gV := f_X12_errorPosition_0  v
def p_X12_errorPosition   (v : gV) : Prop := p_X12_errorPosition_0  v
theorem c_X12_errorPosition {E : gE} {d : Nat}   (hd : 2 ≤ d)  (v : gV) (hp : p_X12_errorPosition  v) : CT E m_X12_errorPosition d 0 0 [.ref (gX E + 559)] (rS v) (Cq (.inl (some (.int ((f_X12_errorPosition  v).1)))) (f_X12_errorPosition  v).2) := CT.of ok_X12_errorPosition rfl (Nat.le_of_ble_eq_true rfl) (w_X12_errorPosition_0  hd  v hp ⟨rfl, rfl⟩)
def f_X12_failedCommand_8  (s0 : Int32) (v : gV) : Int32 × gV := (s0, v)
def p_X12_failedCommand_8  (s0 : Int32) (v : gV) : Prop := True
set_option maxHeartbeats 4000000 in
set_option maxRecDepth 100000 in
theorem w_X12_failedCommand_8 {E : gE} {d : Nat} {Q : gO → gS → Prop}   (hd : 2 ≤ d) (s0 : Int32) (v : gV) (hp : p_X12_failedCommand_8   s0 v) (hQ : gqIV Q (f_X12_failedCommand_8  s0 v)) : gG E m_X12_failedCommand d Q 0 0 (rS v) 8 [] [.int s0] := by
  exact g_iret rfl dX12_failedCommand_8 hQ
def f_X12_failedCommand_0   (v : gV) : Int32 × gV := f_X12_failedCommand_8  ((f_X12_present (v.1 559 9) v).1) (f_X12_present (v.1 559 9) v).2
def p_X12_failedCommand_0   (v : gV) : Prop := (p_X12_present (v.1 559 9) v) ∧ (p_X12_failedCommand_8   ((f_X12_present (v.1 559 9) v).1) (f_X12_present (v.1 559 9) v).2)
set_option maxHeartbeats 4000000 in
set_option maxRecDepth 100000 in
theorem w_X12_failedCommand_0 {E : gE} {d : Nat} {Q : gO → gS → Prop}   (hd : 2 ≤ d)  (v : gV) (hp : p_X12_failedCommand_0    v) (hQ : gqIV Q (f_X12_failedCommand_0   v)) : gG E m_X12_failedCommand d Q 0 0 (rS v) 0 [(0, .ref (gX E + 559))] [] := by
  refine g_aload_n 0 dX12_failedCommand_0 rfl ?_
  refine g_aload_n 0 dX12_failedCommand_1 rfl ?_
  refine r_get (.int (v.1 559 9)) f_X12_38_X12 rfl (by decide : kd 559 = (0, 9)) (show 559 < 572 by decide) dX12_failedCommand_2 (fun _ => rfl) ?_
  obtain ⟨h1, hp⟩ := hp
  refine g_callV (rest := []) s_X12_333_X12 rfl (c_X12_present (E := E) (d := d - 1)   (by omega) (v.1 559 9) v h1) (by decide : kd 559 = (0, 9)) (show 559 < 572 by decide) rfl rfl (Nat.le_of_ble_eq_true rfl) (by omega) (by decide) (by decide) dX12_failedCommand_5 (adV ?_) axN
  refine g_lv (lv' := []) [] rfl ?_
  exact w_X12_failedCommand_8  hd    ((f_X12_present (v.1 559 9) v).1) (f_X12_present (v.1 559 9) v).2 hp hQ
def f_X12_failedCommand   (v : gV) : Int32 × gV := f_X12_failedCommand_0  v
def p_X12_failedCommand   (v : gV) : Prop := p_X12_failedCommand_0  v
theorem c_X12_failedCommand {E : gE} {d : Nat}   (hd : 2 ≤ d)  (v : gV) (hp : p_X12_failedCommand  v) : CT E m_X12_failedCommand d 0 0 [.ref (gX E + 559)] (rS v) (Cq (.inl (some (.int ((f_X12_failedCommand  v).1)))) (f_X12_failedCommand  v).2) := CT.of ok_X12_failedCommand rfl (Nat.le_of_ble_eq_true rfl) (w_X12_failedCommand_0  hd  v hp ⟨rfl, rfl⟩)
def f_X12_undo_51   (v : gV) : Int32 × gV := (v.1 559 7, v)
def p_X12_undo_51   (v : gV) : Prop := True
set_option maxHeartbeats 4000000 in
set_option maxRecDepth 100000 in
theorem w_X12_undo_51 {E : gE} {d : Nat} {Q : gO → gS → Prop}   (hd : 1 ≤ d)  (v : gV) (hp : p_X12_undo_51    v) (hQ : gqIV Q (f_X12_undo_51   v)) : gG E m_X12_undo d Q 0 0 (rS v) 51 [(0, .ref (gX E + 559))] [] := by
  refine g_aload_n 0 dX12_undo_51 rfl ?_
  refine r_get (.int (v.1 559 7)) f_X12_32_X12 rfl (by decide : kd 559 = (0, 9)) (show 559 < 572 by decide) dX12_undo_52 (fun _ => rfl) ?_
  exact g_iret rfl dX12_undo_55 hQ
def f_X12_undo_31   (v : gV) : Int32 × gV := f_X12_undo_51   (f_X12_copy 563 2400 560 300 ((300 : Int32) * (v.1 559 7)) (0 : Int32) v)
def p_X12_undo_31   (v : gV) : Prop := (p_X12_copy 563 2400 560 300 ((300 : Int32) * (v.1 559 7)) (0 : Int32) v) ∧ (p_X12_undo_51    (f_X12_copy 563 2400 560 300 ((300 : Int32) * (v.1 559 7)) (0 : Int32) v))
set_option maxHeartbeats 4000000 in
set_option maxRecDepth 100000 in
theorem w_X12_undo_31 {E : gE} {d : Nat} {Q : gO → gS → Prop}   (hd : 1 ≤ d)  (v : gV) (hp : p_X12_undo_31    v) (hQ : gqIV Q (f_X12_undo_31   v)) : gG E m_X12_undo d Q 0 0 (rS v) 31 [(0, .ref (gX E + 559))] [] := by
  refine g_aload_n 0 dX12_undo_31 rfl ?_
  refine r_get (.ref (gX E + 563)) f_X12_19_X12 rfl (by decide : kd 559 = (0, 9)) (show 559 < 572 by decide) dX12_undo_32 (fun _ => rfl) ?_
  refine g_sipush dX12_undo_35 (300 : Int32) (by decide) ?_
  refine g_aload_n 0 dX12_undo_38 rfl ?_
  refine r_get (.int (v.1 559 7)) f_X12_32_X12 rfl (by decide : kd 559 = (0, 9)) (show 559 < 572 by decide) dX12_undo_39 (fun _ => rfl) ?_
  refine g_imul dX12_undo_42 ?_
  refine g_aload_n 0 dX12_undo_43 rfl ?_
  refine r_get (.ref (gX E + 560)) f_X12_7_X12 rfl (by decide : kd 559 = (0, 9)) (show 559 < 572 by decide) dX12_undo_44 (fun _ => rfl) ?_
  refine g_iconst dX12_undo_47 (0 : Int32) (by decide) ?_
  obtain ⟨h4, hp⟩ := hp
  refine g_callS (rest := []) s_X12_75 rfl (c_X12_copy (E := E) (d := d - 1) 563 2400 560 300 (by decide) (by decide : kd 563 = (1, 2400)) (show 563 < 572 by decide) (by decide) (by decide : kd 560 = (1, 300)) (show 560 < 572 by decide) (by omega) ((300 : Int32) * (v.1 559 7)) (0 : Int32) v h4) rfl rfl (Nat.le_of_ble_eq_true rfl) (by omega) (by decide) (by decide) dX12_undo_48 (adN ?_) axN
  exact w_X12_undo_51  hd     (f_X12_copy 563 2400 560 300 ((300 : Int32) * (v.1 559 7)) (0 : Int32) v) hp hQ
def f_X12_undo_16  (s0 : Int32) (v : gV) : Int32 × gV := if s0 ≤ 0 then (f_X12_undo_31   (vM v 559 7 ((v.1 559 7) - (1 : Int32)))) else (((0 : Int32), v))
def p_X12_undo_16  (s0 : Int32) (v : gV) : Prop := ((s0 ≤ 0) → (p_X12_undo_31    (vM v 559 7 ((v.1 559 7) - (1 : Int32))))) ∧ (¬ (s0 ≤ 0) → (True))
set_option maxHeartbeats 4000000 in
set_option maxRecDepth 100000 in
theorem w_X12_undo_16 {E : gE} {d : Nat} {Q : gO → gS → Prop}   (hd : 1 ≤ d) (s0 : Int32) (v : gV) (hp : p_X12_undo_16   s0 v) (hQ : gqIV Q (f_X12_undo_16  s0 v)) : gG E m_X12_undo d Q 0 0 (rS v) 16 [(0, .ref (gX E + 559))] [.int s0] := by
  refine g_if_le 21 dX12_undo_16 (by decide) (fun h3 => ?_) (fun h3 => ?_)
  · have hQ := qp (P := gqIV Q) h3 hQ
    have hp := hp.1 h3
    refine g_aload_n 0 dX12_undo_21 rfl ?_
    refine g_dup dX12_undo_22 rfl ?_
    refine r_get (.int (v.1 559 7)) f_X12_32_X12 rfl (by decide : kd 559 = (0, 9)) (show 559 < 572 by decide) dX12_undo_23 (fun _ => rfl) ?_
    refine g_iconst dX12_undo_26 (1 : Int32) (by decide) ?_
    refine g_isub dX12_undo_27 ?_
    refine r_put pf_X12_32_X12 rfl (by decide : kd 559 = (0, 9)) (by decide) (by decide) rfl (show 559 < 572 by decide) rfl rfl dX12_undo_28 ?_
    exact w_X12_undo_31  hd     (vM v 559 7 ((v.1 559 7) - (1 : Int32))) hp hQ
  · have hQ := qn (P := gqIV Q) h3 hQ
    have hp := hp.2 h3
    refine g_iconst dX12_undo_19 (0 : Int32) (by decide) ?_
    exact g_iret rfl dX12_undo_20 hQ
def f_X12_undo_13  (s0 : Int32) (v : gV) : Int32 × gV := f_X12_undo_16  ((f_X12_checked s0 v).1) (f_X12_checked s0 v).2
def p_X12_undo_13  (s0 : Int32) (v : gV) : Prop := (p_X12_checked s0 v) ∧ (p_X12_undo_16   ((f_X12_checked s0 v).1) (f_X12_checked s0 v).2)
set_option maxHeartbeats 4000000 in
set_option maxRecDepth 100000 in
theorem w_X12_undo_13 {E : gE} {d : Nat} {Q : gO → gS → Prop}   (hd : 1 ≤ d) (s0 : Int32) (v : gV) (hp : p_X12_undo_13   s0 v) (hQ : gqIV Q (f_X12_undo_13  s0 v)) : gG E m_X12_undo d Q 0 0 (rS v) 13 [(0, .ref (gX E + 559))] [.int s0, .ref (gX E + 559)] := by
  obtain ⟨h2, hp⟩ := hp
  refine g_callV (rest := []) s_X12_213_X12 rfl (c_X12_checked (E := E) (d := d - 1)   (by omega) s0 v h2) (by decide : kd 559 = (0, 9)) (show 559 < 572 by decide) rfl rfl (Nat.le_of_ble_eq_true rfl) (by omega) (by decide) (by decide) dX12_undo_13 (adV ?_) axN
  exact w_X12_undo_16  hd    ((f_X12_checked s0 v).1) (f_X12_checked s0 v).2 hp hQ
def f_X12_undo_0   (v : gV) : Int32 × gV := if (v.1 559 7) ≤ 0 then (f_X12_undo_13  (0 : Int32) v) else (f_X12_undo_13  (1 : Int32) v)
def p_X12_undo_0   (v : gV) : Prop := (((v.1 559 7) ≤ 0) → (p_X12_undo_13   (0 : Int32) v)) ∧ (¬ ((v.1 559 7) ≤ 0) → (p_X12_undo_13   (1 : Int32) v))
set_option maxHeartbeats 4000000 in
set_option maxRecDepth 100000 in
theorem w_X12_undo_0 {E : gE} {d : Nat} {Q : gO → gS → Prop}   (hd : 1 ≤ d)  (v : gV) (hp : p_X12_undo_0    v) (hQ : gqIV Q (f_X12_undo_0   v)) : gG E m_X12_undo d Q 0 0 (rS v) 0 [(0, .ref (gX E + 559))] [] := by
  refine g_aload_n 0 dX12_undo_0 rfl ?_
  refine g_aload_n 0 dX12_undo_1 rfl ?_
  refine r_get (.int (v.1 559 7)) f_X12_32_X12 rfl (by decide : kd 559 = (0, 9)) (show 559 < 572 by decide) dX12_undo_2 (fun _ => rfl) ?_
  refine g_if_le 12 dX12_undo_5 (by decide) (fun h1 => ?_) (fun h1 => ?_)
  · have hQ := qp (P := gqIV Q) h1 hQ
    have hp := hp.1 h1
    refine g_iconst dX12_undo_12 (0 : Int32) (by decide) ?_
    exact w_X12_undo_13  hd    (0 : Int32) v hp hQ
  · have hQ := qn (P := gqIV Q) h1 hQ
    have hp := hp.2 h1
    refine g_iconst dX12_undo_8 (1 : Int32) (by decide) ?_
    refine g_goto 13 dX12_undo_9 (by decide) ?_
    exact w_X12_undo_13  hd    (1 : Int32) v hp hQ
def f_X12_undo   (v : gV) : Int32 × gV := f_X12_undo_0  v
def p_X12_undo   (v : gV) : Prop := p_X12_undo_0  v
theorem c_X12_undo {E : gE} {d : Nat}   (hd : 1 ≤ d)  (v : gV) (hp : p_X12_undo  v) : CT E m_X12_undo d 0 0 [.ref (gX E + 559)] (rS v) (Cq (.inl (some (.int ((f_X12_undo  v).1)))) (f_X12_undo  v).2) := CT.of ok_X12_undo rfl (Nat.le_of_ble_eq_true rfl) (w_X12_undo_0  hd  v hp ⟨rfl, rfl⟩)
def f_X12_save_23   (v : gV) : Int32 × gV := (v.1 560 (0 : Int32).toNatClampNeg, v)
def p_X12_save_23   (v : gV) : Prop := True
set_option maxHeartbeats 4000000 in
set_option maxRecDepth 100000 in
theorem w_X12_save_23 {E : gE} {d : Nat} {Q : gO → gS → Prop}   (hd : 1 ≤ d)  (v : gV) (hp : p_X12_save_23    v) (hQ : gqIV Q (f_X12_save_23   v)) : gG E m_X12_save d Q 0 0 (rS v) 23 [(0, .ref (gX E + 559))] [] := by
  refine g_aload_n 0 dX12_save_23 rfl ?_
  refine r_get (.ref (gX E + 560)) f_X12_7_X12 rfl (by decide : kd 559 = (0, 9)) (show 559 < 572 by decide) dX12_save_24 (fun _ => rfl) ?_
  refine g_iconst dX12_save_27 (0 : Int32) (by decide) ?_
  refine g_iald (by decide : kd 560 = (1, 300)) (show 560 < 572 by decide) (show ¬ (_ ∨ _) by decide) dX12_save_28 ?_
  exact g_iret rfl dX12_save_29 hQ
def f_X12_save_18   (v : gV) : Int32 × gV := f_X12_save_23   (vM v 559 10 (1 : Int32))
def p_X12_save_18   (v : gV) : Prop := p_X12_save_23    (vM v 559 10 (1 : Int32))
set_option maxHeartbeats 4000000 in
set_option maxRecDepth 100000 in
theorem w_X12_save_18 {E : gE} {d : Nat} {Q : gO → gS → Prop}   (hd : 1 ≤ d)  (v : gV) (hp : p_X12_save_18    v) (hQ : gqIV Q (f_X12_save_18   v)) : gG E m_X12_save d Q 0 0 (rS v) 18 [(0, .ref (gX E + 559))] [] := by
  refine g_aload_n 0 dX12_save_18 rfl ?_
  refine g_iconst dX12_save_19 (1 : Int32) (by decide) ?_
  refine r_put pf_X12_41_X12 rfl (by decide : kd 559 = (0, 9)) (by decide) (by decide) rfl (show 559 < 572 by decide) rfl rfl dX12_save_20 ?_
  exact w_X12_save_23  hd     (vM v 559 10 (1 : Int32)) hp hQ
def f_X12_save_5   (v : gV) : Int32 × gV := f_X12_save_18   (f_X12_copy 560 300 562 300 (0 : Int32) (0 : Int32) v)
def p_X12_save_5   (v : gV) : Prop := (p_X12_copy 560 300 562 300 (0 : Int32) (0 : Int32) v) ∧ (p_X12_save_18    (f_X12_copy 560 300 562 300 (0 : Int32) (0 : Int32) v))
set_option maxHeartbeats 4000000 in
set_option maxRecDepth 100000 in
theorem w_X12_save_5 {E : gE} {d : Nat} {Q : gO → gS → Prop}   (hd : 1 ≤ d)  (v : gV) (hp : p_X12_save_5    v) (hQ : gqIV Q (f_X12_save_5   v)) : gG E m_X12_save d Q 0 0 (rS v) 5 [(0, .ref (gX E + 559))] [] := by
  refine g_aload_n 0 dX12_save_5 rfl ?_
  refine r_get (.ref (gX E + 560)) f_X12_7_X12 rfl (by decide : kd 559 = (0, 9)) (show 559 < 572 by decide) dX12_save_6 (fun _ => rfl) ?_
  refine g_iconst dX12_save_9 (0 : Int32) (by decide) ?_
  refine g_aload_n 0 dX12_save_10 rfl ?_
  refine r_get (.ref (gX E + 562)) f_X12_16_X12 rfl (by decide : kd 559 = (0, 9)) (show 559 < 572 by decide) dX12_save_11 (fun _ => rfl) ?_
  refine g_iconst dX12_save_14 (0 : Int32) (by decide) ?_
  obtain ⟨h1, hp⟩ := hp
  refine g_callS (rest := []) s_X12_75 rfl (c_X12_copy (E := E) (d := d - 1) 560 300 562 300 (by decide) (by decide : kd 560 = (1, 300)) (show 560 < 572 by decide) (by decide) (by decide : kd 562 = (1, 300)) (show 562 < 572 by decide) (by omega) (0 : Int32) (0 : Int32) v h1) rfl rfl (Nat.le_of_ble_eq_true rfl) (by omega) (by decide) (by decide) dX12_save_15 (adN ?_) axN
  exact w_X12_save_18  hd     (f_X12_copy 560 300 562 300 (0 : Int32) (0 : Int32) v) hp hQ
def f_X12_save_0   (v : gV) : Int32 × gV := f_X12_save_5   (vM v 559 6 (0 : Int32))
def p_X12_save_0   (v : gV) : Prop := p_X12_save_5    (vM v 559 6 (0 : Int32))
set_option maxHeartbeats 4000000 in
set_option maxRecDepth 100000 in
theorem w_X12_save_0 {E : gE} {d : Nat} {Q : gO → gS → Prop}   (hd : 1 ≤ d)  (v : gV) (hp : p_X12_save_0    v) (hQ : gqIV Q (f_X12_save_0   v)) : gG E m_X12_save d Q 0 0 (rS v) 0 [(0, .ref (gX E + 559))] [] := by
  refine g_aload_n 0 dX12_save_0 rfl ?_
  refine g_iconst dX12_save_1 (0 : Int32) (by decide) ?_
  refine r_put pf_X12_28_X12 rfl (by decide : kd 559 = (0, 9)) (by decide) (by decide) rfl (show 559 < 572 by decide) rfl rfl dX12_save_2 ?_
  exact w_X12_save_5  hd     (vM v 559 6 (0 : Int32)) hp hQ
def f_X12_save   (v : gV) : Int32 × gV := f_X12_save_0  v
def p_X12_save   (v : gV) : Prop := p_X12_save_0  v
theorem c_X12_save {E : gE} {d : Nat}   (hd : 1 ≤ d)  (v : gV) (hp : p_X12_save  v) : CT E m_X12_save d 0 0 [.ref (gX E + 559)] (rS v) (Cq (.inl (some (.int ((f_X12_save  v).1)))) (f_X12_save  v).2) := CT.of ok_X12_save rfl (Nat.le_of_ble_eq_true rfl) (w_X12_save_0  hd  v hp ⟨rfl, rfl⟩)
def f_X12_restore_31   (v : gV) : Int32 × gV := (v.1 560 (0 : Int32).toNatClampNeg, v)
def p_X12_restore_31   (v : gV) : Prop := True
set_option maxHeartbeats 4000000 in
set_option maxRecDepth 100000 in
theorem w_X12_restore_31 {E : gE} {d : Nat} {Q : gO → gS → Prop}   (hd : 1 ≤ d)  (v : gV) (hp : p_X12_restore_31    v) (hQ : gqIV Q (f_X12_restore_31   v)) : gG E m_X12_restore d Q 0 0 (rS v) 31 [(0, .ref (gX E + 559))] [] := by
  refine g_aload_n 0 dX12_restore_31 rfl ?_
  refine r_get (.ref (gX E + 560)) f_X12_7_X12 rfl (by decide : kd 559 = (0, 9)) (show 559 < 572 by decide) dX12_restore_32 (fun _ => rfl) ?_
  refine g_iconst dX12_restore_35 (0 : Int32) (by decide) ?_
  refine g_iald (by decide : kd 560 = (1, 300)) (show 560 < 572 by decide) (show ¬ (_ ∨ _) by decide) dX12_restore_36 ?_
  exact g_iret rfl dX12_restore_37 hQ
def f_X12_restore_26   (v : gV) : Int32 × gV := f_X12_restore_31   (vM v 559 7 (0 : Int32))
def p_X12_restore_26   (v : gV) : Prop := p_X12_restore_31    (vM v 559 7 (0 : Int32))
set_option maxHeartbeats 4000000 in
set_option maxRecDepth 100000 in
theorem w_X12_restore_26 {E : gE} {d : Nat} {Q : gO → gS → Prop}   (hd : 1 ≤ d)  (v : gV) (hp : p_X12_restore_26    v) (hQ : gqIV Q (f_X12_restore_26   v)) : gG E m_X12_restore d Q 0 0 (rS v) 26 [(0, .ref (gX E + 559))] [] := by
  refine g_aload_n 0 dX12_restore_26 rfl ?_
  refine g_iconst dX12_restore_27 (0 : Int32) (by decide) ?_
  refine r_put pf_X12_32_X12 rfl (by decide : kd 559 = (0, 9)) (by decide) (by decide) rfl (show 559 < 572 by decide) rfl rfl dX12_restore_28 ?_
  exact w_X12_restore_31  hd     (vM v 559 7 (0 : Int32)) hp hQ
def f_X12_restore_8  (s0 : Int32) (v : gV) : Int32 × gV := if s0 ≤ 0 then (f_X12_restore_26   (f_X12_copy 562 300 560 300 (0 : Int32) (0 : Int32) v)) else (((0 : Int32), v))
def p_X12_restore_8  (s0 : Int32) (v : gV) : Prop := ((s0 ≤ 0) → ((p_X12_copy 562 300 560 300 (0 : Int32) (0 : Int32) v) ∧ (p_X12_restore_26    (f_X12_copy 562 300 560 300 (0 : Int32) (0 : Int32) v)))) ∧ (¬ (s0 ≤ 0) → (True))
set_option maxHeartbeats 4000000 in
set_option maxRecDepth 100000 in
theorem w_X12_restore_8 {E : gE} {d : Nat} {Q : gO → gS → Prop}   (hd : 1 ≤ d) (s0 : Int32) (v : gV) (hp : p_X12_restore_8   s0 v) (hQ : gqIV Q (f_X12_restore_8  s0 v)) : gG E m_X12_restore d Q 0 0 (rS v) 8 [(0, .ref (gX E + 559))] [.int s0] := by
  refine g_if_le 13 dX12_restore_8 (by decide) (fun h2 => ?_) (fun h2 => ?_)
  · have hQ := qp (P := gqIV Q) h2 hQ
    have hp := hp.1 h2
    refine g_aload_n 0 dX12_restore_13 rfl ?_
    refine r_get (.ref (gX E + 562)) f_X12_16_X12 rfl (by decide : kd 559 = (0, 9)) (show 559 < 572 by decide) dX12_restore_14 (fun _ => rfl) ?_
    refine g_iconst dX12_restore_17 (0 : Int32) (by decide) ?_
    refine g_aload_n 0 dX12_restore_18 rfl ?_
    refine r_get (.ref (gX E + 560)) f_X12_7_X12 rfl (by decide : kd 559 = (0, 9)) (show 559 < 572 by decide) dX12_restore_19 (fun _ => rfl) ?_
    refine g_iconst dX12_restore_22 (0 : Int32) (by decide) ?_
    obtain ⟨h3, hp⟩ := hp
    refine g_callS (rest := []) s_X12_75 rfl (c_X12_copy (E := E) (d := d - 1) 562 300 560 300 (by decide) (by decide : kd 562 = (1, 300)) (show 562 < 572 by decide) (by decide) (by decide : kd 560 = (1, 300)) (show 560 < 572 by decide) (by omega) (0 : Int32) (0 : Int32) v h3) rfl rfl (Nat.le_of_ble_eq_true rfl) (by omega) (by decide) (by decide) dX12_restore_23 (adN ?_) axN
    exact w_X12_restore_26  hd     (f_X12_copy 562 300 560 300 (0 : Int32) (0 : Int32) v) hp hQ
  · have hQ := qn (P := gqIV Q) h2 hQ
    have hp := hp.2 h2
    refine g_iconst dX12_restore_11 (0 : Int32) (by decide) ?_
    exact g_iret rfl dX12_restore_12 hQ
def f_X12_restore_0   (v : gV) : Int32 × gV := f_X12_restore_8  ((f_X12_checked (v.1 559 10) v).1) (f_X12_checked (v.1 559 10) v).2
def p_X12_restore_0   (v : gV) : Prop := (p_X12_checked (v.1 559 10) v) ∧ (p_X12_restore_8   ((f_X12_checked (v.1 559 10) v).1) (f_X12_checked (v.1 559 10) v).2)
set_option maxHeartbeats 4000000 in
set_option maxRecDepth 100000 in
theorem w_X12_restore_0 {E : gE} {d : Nat} {Q : gO → gS → Prop}   (hd : 1 ≤ d)  (v : gV) (hp : p_X12_restore_0    v) (hQ : gqIV Q (f_X12_restore_0   v)) : gG E m_X12_restore d Q 0 0 (rS v) 0 [(0, .ref (gX E + 559))] [] := by
  refine g_aload_n 0 dX12_restore_0 rfl ?_
  refine g_aload_n 0 dX12_restore_1 rfl ?_
  refine r_get (.int (v.1 559 10)) f_X12_41_X12 rfl (by decide : kd 559 = (0, 9)) (show 559 < 572 by decide) dX12_restore_2 (fun _ => rfl) ?_
  obtain ⟨h1, hp⟩ := hp
  refine g_callV (rest := []) s_X12_213_X12 rfl (c_X12_checked (E := E) (d := d - 1)   (by omega) (v.1 559 10) v h1) (by decide : kd 559 = (0, 9)) (show 559 < 572 by decide) rfl rfl (Nat.le_of_ble_eq_true rfl) (by omega) (by decide) (by decide) dX12_restore_5 (adV ?_) axN
  exact w_X12_restore_8  hd    ((f_X12_checked (v.1 559 10) v).1) (f_X12_checked (v.1 559 10) v).2 hp hQ
def f_X12_restore   (v : gV) : Int32 × gV := f_X12_restore_0  v
def p_X12_restore   (v : gV) : Prop := p_X12_restore_0  v
theorem c_X12_restore {E : gE} {d : Nat}   (hd : 1 ≤ d)  (v : gV) (hp : p_X12_restore  v) : CT E m_X12_restore d 0 0 [.ref (gX E + 559)] (rS v) (Cq (.inl (some (.int ((f_X12_restore  v).1)))) (f_X12_restore  v).2) := CT.of ok_X12_restore rfl (Nat.le_of_ble_eq_true rfl) (w_X12_restore_0  hd  v hp ⟨rfl, rfl⟩)
def f_J7_fill_53178_14 (j0 : Nat) (N0 : Nat) (K5 : Int32 → Int32 → Int32 → gV → gV)  (x1 : Int32) (x2 : Int32) (x3 : Int32) (v : gV) : gV := K5 x1 (x2 + 1) x3 v
def p_J7_fill_53178_14 (j0 : Nat) (N0 : Nat) (K5 : Int32 → Int32 → Int32 → gV → gV)  (PK5 : Int32 → Int32 → Int32 → gV → Prop)  (x1 : Int32) (x2 : Int32) (x3 : Int32) (v : gV) : Prop := PK5 x1 (x2 + 1) x3 v
set_option maxHeartbeats 4000000 in
set_option maxRecDepth 100000 in
theorem w_J7_fill_53178_14 {E : gE} {d : Nat} {Q : gO → gS → Prop} (j0 : Nat) (N0 : Nat) (hN0 : N0 < 65536) (hk0 : kd j0 = (1, N0)) (hj0 : j0 < 572) (hd : 0 ≤ d) (K5 : Int32 → Int32 → Int32 → gV → gV)  (PK5 : Int32 → Int32 → Int32 → gV → Prop)  (hK5 : ∀ (x1 : Int32) (x2 : Int32) (x3 : Int32) (v : gV), PK5 x1 x2 x3 v → gqV Q (K5 x1 x2 x3 v) → gG E m_J7_fill_53178 d Q 0 0 (rS v) 5 [(0, .ref (gX E + j0)), (1, .int x1), (2, .int x2), (3, .int x3)] [])  (x1 : Int32) (x2 : Int32) (x3 : Int32) (v : gV) (hp : p_J7_fill_53178_14 j0 N0 K5 PK5 x1 x2 x3 v) (hQ : gqV Q (f_J7_fill_53178_14 j0 N0 K5 x1 x2 x3 v)) : gG E m_J7_fill_53178 d Q 0 0 (rS v) 14 [(0, .ref (gX E + j0)), (1, .int x1), (2, .int x2), (3, .int x3)] [] := by
  refine g_iinc 2 (x2 + 1) [(2, .int (x2 + 1)), (0, .ref (gX E + j0)), (1, .int x1), (3, .int x3)] dJ7_fill_53178_14 rfl rfl (by decide) rfl ?_
  refine g_goto 5 dJ7_fill_53178_17 (by decide) ?_
  refine g_lv (lv' := [(0, .ref (gX E + j0)), (1, .int x1), (2, .int (x2 + 1)), (3, .int x3)]) [1, 2, 0, 3] rfl ?_
  exact hK5 x1 (x2 + 1) x3 v hp hQ
def f_J7_fill_53178_5 (j0 : Nat) (N0 : Nat) : Nat → Int32 → Int32 → Int32 → gV → gV
  | 0, _, _, _, v => v
  | n + 1, x1, x2, x3, v => if x3 ≤ x2 then v else (f_J7_fill_53178_14 j0 N0 (fun x1 x2 x3 v => f_J7_fill_53178_5 j0 N0  n x1 x2 x3 v) x1 x2 x3 (vM v j0 x2.toNatClampNeg x1))
def p_J7_fill_53178_5 (j0 : Nat) (N0 : Nat) : Nat → Int32 → Int32 → Int32 → gV → Prop
  | 0, _, _, _, _ => False
  | n + 1, x1, x2, x3, v => ((x3 ≤ x2) → (True)) ∧ (¬ (x3 ≤ x2) → ((vp_in x2 N0) ∧ (p_J7_fill_53178_14 j0 N0 (fun x1 x2 x3 v => f_J7_fill_53178_5 j0 N0  n x1 x2 x3 v) (fun x1 x2 x3 v => p_J7_fill_53178_5 j0 N0   n x1 x2 x3 v) x1 x2 x3 (vM v j0 x2.toNatClampNeg x1))))
set_option maxHeartbeats 4000000 in
set_option maxRecDepth 100000 in
theorem w_J7_fill_53178_5 {E : gE} {d : Nat} {Q : gO → gS → Prop} (j0 : Nat) (N0 : Nat) (hN0 : N0 < 65536) (hk0 : kd j0 = (1, N0)) (hj0 : j0 < 572) (hd : 0 ≤ d) : ∀ (n : Nat) (x1 : Int32) (x2 : Int32) (x3 : Int32) (v : gV), p_J7_fill_53178_5 j0 N0   n x1 x2 x3 v → gqV Q (f_J7_fill_53178_5 j0 N0  n x1 x2 x3 v) → gG E m_J7_fill_53178 d Q 0 0 (rS v) 5 [(0, .ref (gX E + j0)), (1, .int x1), (2, .int x2), (3, .int x3)] [] := by
  intro n
  induction n with
  | zero => intro x1 x2 x3 v hp; exact hp.elim
  | succ n ih =>
    intro x1 x2 x3 v hp hQ
    refine g_iload_n 2 dJ7_fill_53178_5 rfl ?_
    refine g_iload_n 3 dJ7_fill_53178_6 rfl ?_
    refine g_icmp_ge 20 dJ7_fill_53178_7 (by decide) (fun h1 => ?_) (fun h1 => ?_)
    · have hQ := qp (P := gqV Q) h1 hQ
      have hp := hp.1 h1
      exact g_vret rfl dJ7_fill_53178_20 hQ
    · have hQ := qn (P := gqV Q) h1 hQ
      have hp := hp.2 h1
      refine g_aload_n 0 dJ7_fill_53178_10 rfl ?_
      refine g_iload_n 2 dJ7_fill_53178_11 rfl ?_
      refine g_iload_n 1 dJ7_fill_53178_12 rfl ?_
      obtain ⟨h2, hp⟩ := hp
      refine r_iast hk0 hj0 h2 dJ7_fill_53178_13 ?_
      exact w_J7_fill_53178_14 j0 N0 hN0 hk0 hj0 hd (fun x1 x2 x3 v => f_J7_fill_53178_5 j0 N0  n x1 x2 x3 v) (fun x1 x2 x3 v => p_J7_fill_53178_5 j0 N0   n x1 x2 x3 v) ih x1 x2 x3 (vM v j0 x2.toNatClampNeg x1) hp hQ
def f_J7_fill_53178_0 (j0 : Nat) (N0 : Nat) (x1 : Int32) (v : gV) : gV := f_J7_fill_53178_5 j0 N0  5000 x1 (0 : Int32) (nI N0) v
def p_J7_fill_53178_0 (j0 : Nat) (N0 : Nat) (x1 : Int32) (v : gV) : Prop := p_J7_fill_53178_5 j0 N0   5000 x1 (0 : Int32) (nI N0) v
set_option maxHeartbeats 4000000 in
set_option maxRecDepth 100000 in
theorem w_J7_fill_53178_0 {E : gE} {d : Nat} {Q : gO → gS → Prop} (j0 : Nat) (N0 : Nat) (hN0 : N0 < 65536) (hk0 : kd j0 = (1, N0)) (hj0 : j0 < 572) (hd : 0 ≤ d) (x1 : Int32) (v : gV) (hp : p_J7_fill_53178_0 j0 N0   x1 v) (hQ : gqV Q (f_J7_fill_53178_0 j0 N0  x1 v)) : gG E m_J7_fill_53178 d Q 0 0 (rS v) 0 [(0, .ref (gX E + j0)), (1, .int x1)] [] := by
  refine g_iconst dJ7_fill_53178_0 (0 : Int32) (by decide) ?_
  refine g_istore_n [(2, .int ((0 : Int32))), (0, .ref (gX E + j0)), (1, .int x1)] dJ7_fill_53178_1 rfl (by decide) rfl ?_
  refine g_aload_n 1 dJ7_fill_53178_2 rfl ?_
  refine g_alen (nI N0) hk0 (by decide) hj0 rfl dJ7_fill_53178_3 ?_
  refine g_istore_n [(3, .int (nI N0)), (2, .int ((0 : Int32))), (0, .ref (gX E + j0)), (1, .int x1)] dJ7_fill_53178_4 rfl (by decide) rfl ?_
  refine g_lv (lv' := [(0, .ref (gX E + j0)), (1, .int x1), (2, .int ((0 : Int32))), (3, .int (nI N0))]) [2, 3, 1, 0] rfl ?_
  exact w_J7_fill_53178_5 j0 N0 hN0 hk0 hj0 hd    5000 x1 (0 : Int32) (nI N0) v hp hQ
def f_J7_fill_53178 (j0 : Nat) (N0 : Nat) (x1 : Int32) (v : gV) : gV := f_J7_fill_53178_0 j0 N0 x1 v
def p_J7_fill_53178 (j0 : Nat) (N0 : Nat) (x1 : Int32) (v : gV) : Prop := p_J7_fill_53178_0 j0 N0 x1 v
theorem c_J7_fill_53178 {E : gE} {d : Nat} (j0 : Nat) (N0 : Nat) (hN0 : N0 < 65536) (hk0 : kd j0 = (1, N0)) (hj0 : j0 < 572) (hd : 0 ≤ d) (x1 : Int32) (v : gV) (hp : p_J7_fill_53178 j0 N0 x1 v) : CT E m_J7_fill_53178 d 0 0 [.ref (gX E + j0), .int x1] (rS v) (Cq (.inl none) (f_J7_fill_53178 j0 N0 x1 v)) := CT.of ok_J7_fill_53178 rfl (Nat.le_of_ble_eq_true rfl) (w_J7_fill_53178_0 j0 N0 hN0 hk0 hj0 hd x1 v hp ⟨rfl, rfl⟩)
def f_X1_advance_16 (b : Nat)  (v : gV) : (Int32 ⊕ String) × gV := (Sum.inl (v.1 b 5), v)
def p_X1_advance_16 (b : Nat)  (v : gV) : Prop := True
set_option maxHeartbeats 4000000 in
set_option maxRecDepth 100000 in
theorem w_X1_advance_16 {E : gE} {d : Nat} {Q : gO → gS → Prop} (b : Nat) (hb : isBk b) (hd : 8 ≤ d)  (v : gV) (hp : p_X1_advance_16 b    v) (hQ : gqTIV Q (f_X1_advance_16 b   v)) : gG E m_X1_advance d Q 0 0 (rS v) 16 [(0, .ref (gX E + b))] [] := by
  refine g_aload_n 0 dX1_advance_16 rfl ?_
  refine r_get (.int (v.1 b 5)) f_X1_62_X1 rfl (kbz hb) (lt_b0 hb) dX1_advance_17 (fun _ => rfl) ?_
  exact g_iret rfl dX1_advance_20 hQ
def f_X1_advance_12 (b : Nat) (s0 : Int32) (s1 : Int32) (v : gV) : (Int32 ⊕ String) × gV := f_X1_advance_16 b   (vM v b 5 (s1 + s0))
def p_X1_advance_12 (b : Nat) (s0 : Int32) (s1 : Int32) (v : gV) : Prop := p_X1_advance_16 b    (vM v b 5 (s1 + s0))
set_option maxHeartbeats 4000000 in
set_option maxRecDepth 100000 in
theorem w_X1_advance_12 {E : gE} {d : Nat} {Q : gO → gS → Prop} (b : Nat) (hb : isBk b) (hd : 8 ≤ d) (s0 : Int32) (s1 : Int32) (v : gV) (hp : p_X1_advance_12 b   s0 s1 v) (hQ : gqTIV Q (f_X1_advance_12 b  s0 s1 v)) : gG E m_X1_advance d Q 0 0 (rS v) 12 [(0, .ref (gX E + b))] [.int s0, .int s1, .ref (gX E + b)] := by
  refine g_iadd dX1_advance_12 ?_
  refine r_put pf_X1_62_X1 rfl (kbz hb) (by decide) (by decide) rfl (lt_b0 hb) rfl rfl dX1_advance_13 ?_
  exact w_X1_advance_16 b hb hd     (vM v b 5 (s1 + s0)) hp hQ
def f_X1_advance_0 (b : Nat) (x1 : Int32) (v : gV) : (Int32 ⊕ String) × gV := Sum.elim (fun (sr2 : Int32) => f_X1_advance_12 b  sr2 (v.1 b 5) v) (fun (e : String) => (Sum.inr e, v)) (f_X11_checkedNumber x1 (1 : Int32) (60 : Int32) v)
def p_X1_advance_0 (b : Nat) (x1 : Int32) (v : gV) : Prop := (p_X11_checkedNumber x1 (1 : Int32) (60 : Int32) v) ∧ (∀ (sr2 : Int32), (f_X11_checkedNumber x1 (1 : Int32) (60 : Int32) v) = Sum.inl sr2 → (p_X1_advance_12 b   sr2 (v.1 b 5) v))
set_option maxHeartbeats 4000000 in
set_option maxRecDepth 100000 in
theorem w_X1_advance_0 {E : gE} {d : Nat} {Q : gO → gS → Prop} (b : Nat) (hb : isBk b) (hd : 8 ≤ d) (x1 : Int32) (v : gV) (hp : p_X1_advance_0 b   x1 v) (hQ : gqTIV Q (f_X1_advance_0 b  x1 v)) : gG E m_X1_advance d Q 1 6 (rS v) 0 [(0, .ref (gX E + b)), (1, .int x1)] [] := by
  refine g_aload_n 0 dX1_advance_0 rfl ?_
  refine g_dup dX1_advance_1 rfl ?_
  refine r_get (.int (v.1 b 5)) f_X1_62_X1 rfl (kbz hb) (lt_b0 hb) dX1_advance_2 (fun _ => rfl) ?_
  refine g_iload_n 1 dX1_advance_5 rfl ?_
  refine g_iconst dX1_advance_6 (1 : Int32) (by decide) ?_
  refine g_bipush dX1_advance_7 (60 : Int32) (by decide) ?_
  obtain ⟨h1, hp⟩ := hp
  refine g_callN (rest := [.int (v.1 b 5), .ref (gX E + b)]) s_X1_123 rfl (c_X11_checkedNumber (E := E) (d := d - 1)   (by omega) x1 (1 : Int32) (60 : Int32) v h1) rfl rfl (Nat.le_of_ble_eq_true rfl) (by omega) (by decide) (by decide) dX1_advance_9 (adTI (fun sr2 h3 => ?_)) (axTI (fun e h3 => g_outs rfl rfl (qe (P := gqTIV Q) h3 hQ)))
  have hQ := ql (P := gqTIV Q) h3 hQ
  have hp := hp sr2 h3
  refine g_lv (lv' := [(0, .ref (gX E + b))]) [0] rfl ?_
  exact w_X1_advance_12 b hb hd    sr2 (v.1 b 5) v hp hQ
def f_X1_advance (b : Nat) (x1 : Int32) (v : gV) : (Int32 ⊕ String) × gV := f_X1_advance_0 b x1 v
def p_X1_advance (b : Nat) (x1 : Int32) (v : gV) : Prop := p_X1_advance_0 b x1 v
theorem c_X1_advance {E : gE} {d : Nat} (b : Nat) (hb : isBk b) (hd : 8 ≤ d) (x1 : Int32) (v : gV) (hp : p_X1_advance b x1 v) : CT E m_X1_advance d 1 6 [.ref (gX E + b), .int x1] (rS v) (Cq (gOi (f_X1_advance b x1 v).1) (f_X1_advance b x1 v).2) := CT.of ok_X1_advance rfl (Nat.le_of_ble_eq_true rfl) (w_X1_advance_0 b hb hd x1 v hp ⟨rfl, rfl⟩)
