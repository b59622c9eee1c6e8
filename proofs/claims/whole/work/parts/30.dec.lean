def f_J7_fill_d0a16_16 (j0 : Nat) (N0 : Nat) (K6 : Int64 → Int32 → Int32 → gV → gV)  (x1 : Int64) (x3 : Int32) (x4 : Int32) (v : gV) : gV := K6 x1 (x3 + 1) x4 v
def p_J7_fill_d0a16_16 (j0 : Nat) (N0 : Nat) (K6 : Int64 → Int32 → Int32 → gV → gV)  (PK6 : Int64 → Int32 → Int32 → gV → Prop)  (x1 : Int64) (x3 : Int32) (x4 : Int32) (v : gV) : Prop := PK6 x1 (x3 + 1) x4 v
set_option maxHeartbeats 4000000 in
set_option maxRecDepth 100000 in
theorem w_J7_fill_d0a16_16 {E : gE} {d : Nat} {Q : gO → gS → Prop} (j0 : Nat) (N0 : Nat) (hN0 : N0 < 65536) (hk0 : kd j0 = (3, N0)) (hj0 : j0 < 572) (hd : 0 ≤ d) (K6 : Int64 → Int32 → Int32 → gV → gV)  (PK6 : Int64 → Int32 → Int32 → gV → Prop)  (hK6 : ∀ (x1 : Int64) (x3 : Int32) (x4 : Int32) (v : gV), PK6 x1 x3 x4 v → gqV Q v (K6 x1 x3 x4 v) → gG E m_J7_fill_d0a16 d Q 0 0 (rS v) 6 [(0, .ref (gX E + j0)), (1, .long x1), (3, .int x3), (4, .int x4)] [])  (x1 : Int64) (x3 : Int32) (x4 : Int32) (v : gV) (hp : p_J7_fill_d0a16_16 j0 N0 K6 PK6 x1 x3 x4 v) (hQ : gqV Q v (f_J7_fill_d0a16_16 j0 N0 K6 x1 x3 x4 v)) : gG E m_J7_fill_d0a16 d Q 0 0 (rS v) 16 [(0, .ref (gX E + j0)), (1, .long x1), (3, .int x3), (4, .int x4)] [] := by
  refine g_iinc 2 (x3 + 1) [(3, .int (x3 + 1)), (0, .ref (gX E + j0)), (1, .long x1), (4, .int x4)] dJ7_fill_d0a16_16 rfl rfl (by decide) rfl ?_
  refine g_goto 6 dJ7_fill_d0a16_19 (by decide) ?_
  refine g_lv (lv' := [(0, .ref (gX E + j0)), (1, .long x1), (3, .int (x3 + 1)), (4, .int x4)]) [1, 2, 0, 3] rfl ?_
  exact hK6 x1 (x3 + 1) x4 v hp hQ
def f_J7_fill_d0a16_6 (j0 : Nat) (N0 : Nat) : Nat → Int64 → Int32 → Int32 → gV → gV
  | 0, _, _, _, v => v
  | n + 1, x1, x3, x4, v => if x4 ≤ x3 then v else (f_J7_fill_d0a16_16 j0 N0 (fun x1 x3 x4 v => f_J7_fill_d0a16_6 j0 N0  n x1 x3 x4 v) x1 x3 x4 (vL v j0 x3.toNatClampNeg x1))
def p_J7_fill_d0a16_6 (j0 : Nat) (N0 : Nat) : Nat → Int64 → Int32 → Int32 → gV → Prop
  | 0, _, _, _, _ => False
  | n + 1, x1, x3, x4, v => ((x4 ≤ x3) → (True)) ∧ (¬ (x4 ≤ x3) → ((vp_in x3 N0) ∧ (p_J7_fill_d0a16_16 j0 N0 (fun x1 x3 x4 v => f_J7_fill_d0a16_6 j0 N0  n x1 x3 x4 v) (fun x1 x3 x4 v => p_J7_fill_d0a16_6 j0 N0   n x1 x3 x4 v) x1 x3 x4 (vL v j0 x3.toNatClampNeg x1))))
set_option maxHeartbeats 4000000 in
set_option maxRecDepth 100000 in
theorem w_J7_fill_d0a16_6 {E : gE} {d : Nat} {Q : gO → gS → Prop} (j0 : Nat) (N0 : Nat) (hN0 : N0 < 65536) (hk0 : kd j0 = (3, N0)) (hj0 : j0 < 572) (hd : 0 ≤ d) : ∀ (n : Nat) (x1 : Int64) (x3 : Int32) (x4 : Int32) (v : gV), p_J7_fill_d0a16_6 j0 N0   n x1 x3 x4 v → gqV Q v (f_J7_fill_d0a16_6 j0 N0  n x1 x3 x4 v) → gG E m_J7_fill_d0a16 d Q 0 0 (rS v) 6 [(0, .ref (gX E + j0)), (1, .long x1), (3, .int x3), (4, .int x4)] [] := by
  intro n
  induction n with
  | zero => intro x1 x3 x4 v hp; exact hp.elim
  | succ n ih =>
    intro x1 x3 x4 v hp hQ
    refine g_iload_n 2 dJ7_fill_d0a16_6 rfl ?_
    refine g_iload 3 dJ7_fill_d0a16_7 rfl ?_
    refine g_icmp_ge 22 dJ7_fill_d0a16_9 (by decide) (fun h1 => ?_) (fun h1 => ?_)
    · have hQ := qp (P := gqV Q v) h1 hQ
      have hp := hp.1 h1
      exact g_vret rfl dJ7_fill_d0a16_22 hQ
    · have hQ := qn (P := gqV Q v) h1 hQ
      have hp := hp.2 h1
      refine g_aload_n 0 dJ7_fill_d0a16_12 rfl ?_
      refine g_iload_n 2 dJ7_fill_d0a16_13 rfl ?_
      refine g_lload_n 1 dJ7_fill_d0a16_14 rfl ?_
      obtain ⟨h2, hp⟩ := hp
      refine r_last hk0 hj0 h2 dJ7_fill_d0a16_15 ?_
      exact w_J7_fill_d0a16_16 j0 N0 hN0 hk0 hj0 hd (fun x1 x3 x4 v => f_J7_fill_d0a16_6 j0 N0  n x1 x3 x4 v) (fun x1 x3 x4 v => p_J7_fill_d0a16_6 j0 N0   n x1 x3 x4 v) ih x1 x3 x4 (vL v j0 x3.toNatClampNeg x1) hp hQ
def f_J7_fill_d0a16_0 (j0 : Nat) (N0 : Nat) (x1 : Int64) (v : gV) : gV := f_J7_fill_d0a16_6 j0 N0  5000 x1 (0 : Int32) (nI N0) v
def p_J7_fill_d0a16_0 (j0 : Nat) (N0 : Nat) (x1 : Int64) (v : gV) : Prop := p_J7_fill_d0a16_6 j0 N0   5000 x1 (0 : Int32) (nI N0) v
set_option maxHeartbeats 4000000 in
set_option maxRecDepth 100000 in
theorem w_J7_fill_d0a16_0 {E : gE} {d : Nat} {Q : gO → gS → Prop} (j0 : Nat) (N0 : Nat) (hN0 : N0 < 65536) (hk0 : kd j0 = (3, N0)) (hj0 : j0 < 572) (hd : 0 ≤ d) (x1 : Int64) (v : gV) (hp : p_J7_fill_d0a16_0 j0 N0   x1 v) (hQ : gqV Q v (f_J7_fill_d0a16_0 j0 N0  x1 v)) : gG E m_J7_fill_d0a16 d Q 0 0 (rS v) 0 [(0, .ref (gX E + j0)), (1, .long x1)] [] := by
  refine g_iconst dJ7_fill_d0a16_0 (0 : Int32) (by decide) ?_
  refine g_istore_n [(3, .int ((0 : Int32))), (0, .ref (gX E + j0)), (1, .long x1)] dJ7_fill_d0a16_1 rfl (by decide) rfl ?_
  refine g_aload_n 1 dJ7_fill_d0a16_2 rfl ?_
  refine g_alen (nI N0) hk0 (by decide) hj0 rfl dJ7_fill_d0a16_3 ?_
  refine g_istore [(4, .int (nI N0)), (3, .int ((0 : Int32))), (0, .ref (gX E + j0)), (1, .long x1)] dJ7_fill_d0a16_4 (by decide) rfl ?_
  refine g_lv (lv' := [(0, .ref (gX E + j0)), (1, .long x1), (3, .int ((0 : Int32))), (4, .int (nI N0))]) [2, 3, 1, 0] rfl ?_
  exact w_J7_fill_d0a16_6 j0 N0 hN0 hk0 hj0 hd    5000 x1 (0 : Int32) (nI N0) v hp hQ
def f_J7_fill_d0a16 (j0 : Nat) (N0 : Nat) (x1 : Int64) (v : gV) : gV := f_J7_fill_d0a16_0 j0 N0 x1 v
def p_J7_fill_d0a16 (j0 : Nat) (N0 : Nat) (x1 : Int64) (v : gV) : Prop := p_J7_fill_d0a16_0 j0 N0 x1 v
theorem c_J7_fill_d0a16 {E : gE} {d : Nat} (j0 : Nat) (N0 : Nat) (hN0 : N0 < 65536) (hk0 : kd j0 = (3, N0)) (hj0 : j0 < 572) (hd : 0 ≤ d) (x1 : Int64) (v : gV) (hp : p_J7_fill_d0a16 j0 N0 x1 v) : CT E m_J7_fill_d0a16 d 0 0 [.ref (gX E + j0), .long x1] (rS v) (Cq (.inl none) (f_J7_fill_d0a16 j0 N0 x1 v)) := CT.of ok_J7_fill_d0a16 rfl (Nat.le_of_ble_eq_true rfl) (w_J7_fill_d0a16_0 j0 N0 hN0 hk0 hj0 hd x1 v hp ⟨rfl, rfl⟩)
def f_X1_deductible_37  (s0 : Int32) (v : gV) : Int32 := s0
def p_X1_deductible_37  (s0 : Int32) (v : gV) : Prop := True
set_option maxHeartbeats 4000000 in
set_option maxRecDepth 100000 in
theorem w_X1_deductible_37 {E : gE} {d : Nat} {Q : gO → gS → Prop}   (hd : 0 ≤ d) (s0 : Int32) (v : gV) (hp : p_X1_deductible_37   s0 v) (hQ : gqI Q v (f_X1_deductible_37  s0 v)) : gG E m_X1_deductible d Q 0 0 (rS v) 37 [] [.int s0] := by
  exact g_iret rfl dX1_deductible_37 hQ
def f_X1_deductible_0  (x0 : Int32) (x1 : Int32) (v : gV) : Int32 := if x0 = (103 : Int32) then ((2 : Int32)) else (if x0 = (119 : Int32) then ((x1 + (9 : Int32)) / (10 : Int32)) else (if x0 = (102 : Int32) then (f_X1_deductible_37  ((x1 / (4 : Int32)) + (1 : Int32)) v) else (f_X1_deductible_37  (0 : Int32) v)))
def p_X1_deductible_0  (x0 : Int32) (x1 : Int32) (v : gV) : Prop := ((x0 = (103 : Int32)) → (True)) ∧ (¬ (x0 = (103 : Int32)) → (((x0 = (119 : Int32)) → (True)) ∧ (¬ (x0 = (119 : Int32)) → (((x0 = (102 : Int32)) → (p_X1_deductible_37   ((x1 / (4 : Int32)) + (1 : Int32)) v)) ∧ (¬ (x0 = (102 : Int32)) → (p_X1_deductible_37   (0 : Int32) v))))))
set_option maxHeartbeats 4000000 in
set_option maxRecDepth 100000 in
theorem w_X1_deductible_0 {E : gE} {d : Nat} {Q : gO → gS → Prop}   (hd : 0 ≤ d) (x0 : Int32) (x1 : Int32) (v : gV) (hp : p_X1_deductible_0   x0 x1 v) (hQ : gqI Q v (f_X1_deductible_0  x0 x1 v)) : gG E m_X1_deductible d Q 0 0 (rS v) 0 [(0, .int x0), (1, .int x1)] [] := by
  refine g_iload_n 0 dX1_deductible_0 rfl ?_
  refine g_bipush dX1_deductible_1 (103 : Int32) (by decide) ?_
  refine g_icmp_ne 8 dX1_deductible_3 (by decide) (fun h1 => ?_) (fun h1 => ?_)
  · have hQ := qn (P := gqI Q v) h1 hQ
    have hp := hp.2 h1
    refine g_iload_n 0 dX1_deductible_8 rfl ?_
    refine g_bipush dX1_deductible_9 (119 : Int32) (by decide) ?_
    refine g_icmp_ne 22 dX1_deductible_11 (by decide) (fun h2 => ?_) (fun h2 => ?_)
    · have hQ := qn (P := gqI Q v) h2 hQ
      have hp := hp.2 h2
      refine g_iload_n 0 dX1_deductible_22 rfl ?_
      refine g_bipush dX1_deductible_23 (102 : Int32) (by decide) ?_
      refine g_icmp_ne 36 dX1_deductible_25 (by decide) (fun h3 => ?_) (fun h3 => ?_)
      · have hQ := qn (P := gqI Q v) h3 hQ
        have hp := hp.2 h3
        refine g_iconst dX1_deductible_36 (0 : Int32) (by decide) ?_
        refine g_lv (lv' := []) [] rfl ?_
        exact w_X1_deductible_37  hd    (0 : Int32) v hp hQ
      · have hQ := qp (P := gqI Q v) h3 hQ
        have hp := hp.1 h3
        refine g_iload_n 1 dX1_deductible_28 rfl ?_
        refine g_iconst dX1_deductible_29 (4 : Int32) (by decide) ?_
        refine g_idiv dX1_deductible_30 (by decide) ?_
        refine g_iconst dX1_deductible_31 (1 : Int32) (by decide) ?_
        refine g_iadd dX1_deductible_32 ?_
        refine g_goto 37 dX1_deductible_33 (by decide) ?_
        refine g_lv (lv' := []) [] rfl ?_
        exact w_X1_deductible_37  hd    ((x1 / (4 : Int32)) + (1 : Int32)) v hp hQ
    · have hQ := qp (P := gqI Q v) h2 hQ
      have hp := hp.1 h2
      refine g_iload_n 1 dX1_deductible_14 rfl ?_
      refine g_bipush dX1_deductible_15 (9 : Int32) (by decide) ?_
      refine g_iadd dX1_deductible_17 ?_
      refine g_bipush dX1_deductible_18 (10 : Int32) (by decide) ?_
      refine g_idiv dX1_deductible_20 (by decide) ?_
      exact g_iret rfl dX1_deductible_21 hQ
  · have hQ := qp (P := gqI Q v) h1 hQ
    have hp := hp.1 h1
    refine g_iconst dX1_deductible_6 (2 : Int32) (by decide) ?_
    exact g_iret rfl dX1_deductible_7 hQ
def f_X1_deductible  (x0 : Int32) (x1 : Int32) (v : gV) : Int32 := f_X1_deductible_0 x0 x1 v
def p_X1_deductible  (x0 : Int32) (x1 : Int32) (v : gV) : Prop := p_X1_deductible_0 x0 x1 v
theorem c_X1_deductible {E : gE} {d : Nat}   (hd : 0 ≤ d) (x0 : Int32) (x1 : Int32) (v : gV) (hp : p_X1_deductible x0 x1 v) : CT E m_X1_deductible d 0 0 [.int x0, .int x1] (rS v) (Cq (.inl (some (.int (f_X1_deductible x0 x1 v)))) v) := CT.of ok_X1_deductible rfl (Nat.le_of_ble_eq_true rfl) (w_X1_deductible_0  hd x0 x1 v hp ⟨rfl, rfl⟩)
def f_X1_latestPeriod_0 (b : Nat)  (v : gV) : Int32 := (if (5 : Int32) < ((v.1 b 5) / (10 : Int32)) then (5 : Int32) else ((v.1 b 5) / (10 : Int32)))
def p_X1_latestPeriod_0 (b : Nat)  (v : gV) : Prop := True
set_option maxHeartbeats 4000000 in
set_option maxRecDepth 100000 in
theorem w_X1_latestPeriod_0 {E : gE} {d : Nat} {Q : gO → gS → Prop} (b : Nat) (hb : isBk b) (hd : 1 ≤ d)  (v : gV) (hp : p_X1_latestPeriod_0 b    v) (hQ : gqI Q v (f_X1_latestPeriod_0 b   v)) : gG E m_X1_latestPeriod d Q 0 0 (rS v) 0 [(0, .ref (gX E + b))] [] := by
  refine g_aload_n 0 dX1_latestPeriod_0 rfl ?_
  refine r_get (.int (v.1 b 5)) f_X1_62_X1 rfl (kbz hb) (lt_b0 hb) dX1_latestPeriod_1 (fun _ => rfl) ?_
  refine g_bipush dX1_latestPeriod_4 (10 : Int32) (by decide) ?_
  refine g_idiv dX1_latestPeriod_6 (by decide) ?_
  refine g_iconst dX1_latestPeriod_7 (5 : Int32) (by decide) ?_
  refine r_mmin mw_X1_167 rfl (Nat.le_of_ble_eq_true rfl) (by omega) dX1_latestPeriod_8 ?_
  exact g_iret rfl dX1_latestPeriod_11 hQ
def f_X1_latestPeriod (b : Nat)  (v : gV) : Int32 := f_X1_latestPeriod_0 b  v
def p_X1_latestPeriod (b : Nat)  (v : gV) : Prop := p_X1_latestPeriod_0 b  v
theorem c_X1_latestPeriod {E : gE} {d : Nat} (b : Nat) (hb : isBk b) (hd : 1 ≤ d)  (v : gV) (hp : p_X1_latestPeriod b  v) : CT E m_X1_latestPeriod d 0 0 [.ref (gX E + b)] (rS v) (Cq (.inl (some (.int (f_X1_latestPeriod b  v)))) v) := CT.of ok_X1_latestPeriod rfl (Nat.le_of_ble_eq_true rfl) (w_X1_latestPeriod_0 b hb hd  v hp ⟨rfl, rfl⟩)
def f_X1_isBalanced_36 (b : Nat) (s0 : Int32) (v : gV) : Int32 := s0
def p_X1_isBalanced_36 (b : Nat) (s0 : Int32) (v : gV) : Prop := (narrow .boolean (.int s0) = .int s0) ∧ (True)
set_option maxHeartbeats 4000000 in
set_option maxRecDepth 100000 in
theorem w_X1_isBalanced_36 {E : gE} {d : Nat} {Q : gO → gS → Prop} (b : Nat) (hb : isBk b) (hd : 0 ≤ d) (s0 : Int32) (v : gV) (hp : p_X1_isBalanced_36 b   s0 v) (hQ : gqI Q v (f_X1_isBalanced_36 b  s0 v)) : gG E m_X1_isBalanced d Q 0 0 (rS v) 36 [] [.int s0] := by
  obtain ⟨h2, hp⟩ := hp
  exact g_zret rfl h2 dX1_isBalanced_36 hQ
def f_X1_isBalanced_0 (b : Nat)  (v : gV) : Int32 := if (v.1 b 6) = (((((v.1 b 7) - (v.1 b 8)) - (v.1 b 9)) - (v.1 b 10)) + (v.1 b 11)) then (f_X1_isBalanced_36 b  (1 : Int32) v) else (f_X1_isBalanced_36 b  (0 : Int32) v)
def p_X1_isBalanced_0 (b : Nat)  (v : gV) : Prop := (((v.1 b 6) = (((((v.1 b 7) - (v.1 b 8)) - (v.1 b 9)) - (v.1 b 10)) + (v.1 b 11))) → (p_X1_isBalanced_36 b   (1 : Int32) v)) ∧ (¬ ((v.1 b 6) = (((((v.1 b 7) - (v.1 b 8)) - (v.1 b 9)) - (v.1 b 10)) + (v.1 b 11))) → (p_X1_isBalanced_36 b   (0 : Int32) v))
set_option maxHeartbeats 4000000 in
set_option maxRecDepth 100000 in
theorem w_X1_isBalanced_0 {E : gE} {d : Nat} {Q : gO → gS → Prop} (b : Nat) (hb : isBk b) (hd : 0 ≤ d)  (v : gV) (hp : p_X1_isBalanced_0 b    v) (hQ : gqI Q v (f_X1_isBalanced_0 b   v)) : gG E m_X1_isBalanced d Q 0 0 (rS v) 0 [(0, .ref (gX E + b))] [] := by
  refine g_aload_n 0 dX1_isBalanced_0 rfl ?_
  refine r_get (.int (v.1 b 6)) f_X1_66_X1 rfl (kbz hb) (lt_b0 hb) dX1_isBalanced_1 (fun _ => rfl) ?_
  refine g_aload_n 0 dX1_isBalanced_4 rfl ?_
  refine r_get (.int (v.1 b 7)) f_X1_69_X1 rfl (kbz hb) (lt_b0 hb) dX1_isBalanced_5 (fun _ => rfl) ?_
  refine g_aload_n 0 dX1_isBalanced_8 rfl ?_
  refine r_get (.int (v.1 b 8)) f_X1_72_X1 rfl (kbz hb) (lt_b0 hb) dX1_isBalanced_9 (fun _ => rfl) ?_
  refine g_isub dX1_isBalanced_12 ?_
  refine g_aload_n 0 dX1_isBalanced_13 rfl ?_
  refine r_get (.int (v.1 b 9)) f_X1_75_X1 rfl (kbz hb) (lt_b0 hb) dX1_isBalanced_14 (fun _ => rfl) ?_
  refine g_isub dX1_isBalanced_17 ?_
  refine g_aload_n 0 dX1_isBalanced_18 rfl ?_
  refine r_get (.int (v.1 b 10)) f_X1_78_X1 rfl (kbz hb) (lt_b0 hb) dX1_isBalanced_19 (fun _ => rfl) ?_
  refine g_isub dX1_isBalanced_22 ?_
  refine g_aload_n 0 dX1_isBalanced_23 rfl ?_
  refine r_get (.int (v.1 b 11)) f_X1_81_X1 rfl (kbz hb) (lt_b0 hb) dX1_isBalanced_24 (fun _ => rfl) ?_
  refine g_iadd dX1_isBalanced_27 ?_
  refine g_icmp_ne 35 dX1_isBalanced_28 (by decide) (fun h1 => ?_) (fun h1 => ?_)
  · have hQ := qn (P := gqI Q v) h1 hQ
    have hp := hp.2 h1
    refine g_iconst dX1_isBalanced_35 (0 : Int32) (by decide) ?_
    refine g_lv (lv' := []) [] rfl ?_
    exact w_X1_isBalanced_36 b hb hd    (0 : Int32) v hp hQ
  · have hQ := qp (P := gqI Q v) h1 hQ
    have hp := hp.1 h1
    refine g_iconst dX1_isBalanced_31 (1 : Int32) (by decide) ?_
    refine g_goto 36 dX1_isBalanced_32 (by decide) ?_
    refine g_lv (lv' := []) [] rfl ?_
    exact w_X1_isBalanced_36 b hb hd    (1 : Int32) v hp hQ
def f_X1_isBalanced (b : Nat)  (v : gV) : Int32 := f_X1_isBalanced_0 b  v
def p_X1_isBalanced (b : Nat)  (v : gV) : Prop := p_X1_isBalanced_0 b  v
theorem c_X1_isBalanced {E : gE} {d : Nat} (b : Nat) (hb : isBk b) (hd : 0 ≤ d)  (v : gV) (hp : p_X1_isBalanced b  v) : CT E m_X1_isBalanced d 0 0 [.ref (gX E + b)] (rS v) (Cq (.inl (some (.int (f_X1_isBalanced b  v)))) v) := CT.of ok_X1_isBalanced rfl (Nat.le_of_ble_eq_true rfl) (w_X1_isBalanced_0 b hb hd  v hp ⟨rfl, rfl⟩)
def f_X2_unpaidAt_0 (b : Nat) (x1 : Int32) (v : gV) : Int32 := (v.1 (b + 14) x1.toNatClampNeg) - (v.1 (b + 15) x1.toNatClampNeg)
def p_X2_unpaidAt_0 (b : Nat) (x1 : Int32) (v : gV) : Prop := (vp_in x1 12) ∧ ((vp_in x1 12) ∧ (True))
set_option maxHeartbeats 4000000 in
set_option maxRecDepth 100000 in
theorem w_X2_unpaidAt_0 {E : gE} {d : Nat} {Q : gO → gS → Prop} (b : Nat) (hb : isBk b) (hd : 0 ≤ d) (x1 : Int32) (v : gV) (hp : p_X2_unpaidAt_0 b   x1 v) (hQ : gqI Q v (f_X2_unpaidAt_0 b  x1 v)) : gG E m_X2_unpaidAt d Q 0 0 (rS v) 0 [(0, .ref (gX E + (b + 10))), (1, .int x1)] [] := by
  refine g_aload_n 0 dX2_unpaidAt_0 rfl ?_
  refine r_get (.ref (gX E + (b + 14))) f_X2_19_X2 rfl (kb_10 hb) (lt_b hb (by decide)) dX2_unpaidAt_1 (fun _ => rfl) ?_
  refine g_iload_n 1 dX2_unpaidAt_4 rfl ?_
  obtain ⟨h1, hp⟩ := hp
  refine g_iald (kb_14 hb) (lt_b hb (by decide)) h1 dX2_unpaidAt_5 ?_
  refine g_aload_n 0 dX2_unpaidAt_6 rfl ?_
  refine r_get (.ref (gX E + (b + 15))) f_X2_22_X2 rfl (kb_10 hb) (lt_b hb (by decide)) dX2_unpaidAt_7 (fun _ => rfl) ?_
  refine g_iload_n 1 dX2_unpaidAt_10 rfl ?_
  obtain ⟨h2, hp⟩ := hp
  refine g_iald (kb_15 hb) (lt_b hb (by decide)) h2 dX2_unpaidAt_11 ?_
  refine g_isub dX2_unpaidAt_12 ?_
  exact g_iret rfl dX2_unpaidAt_13 hQ
def f_X2_unpaidAt (b : Nat) (x1 : Int32) (v : gV) : Int32 := f_X2_unpaidAt_0 b x1 v
def p_X2_unpaidAt (b : Nat) (x1 : Int32) (v : gV) : Prop := p_X2_unpaidAt_0 b x1 v
theorem c_X2_unpaidAt {E : gE} {d : Nat} (b : Nat) (hb : isBk b) (hd : 0 ≤ d) (x1 : Int32) (v : gV) (hp : p_X2_unpaidAt b x1 v) : CT E m_X2_unpaidAt d 0 0 [.ref (gX E + (b + 10)), .int x1] (rS v) (Cq (.inl (some (.int (f_X2_unpaidAt b x1 v)))) v) := CT.of ok_X2_unpaidAt rfl (Nat.le_of_ble_eq_true rfl) (w_X2_unpaidAt_0 b hb hd x1 v hp ⟨rfl, rfl⟩)
def f_X2_coinsOf_4 (b : Nat) : Nat → Int32 → Int32 → Int32 → gV → Int32
  | 0, _, _, _, v => 0
  | n + 1, x1, x2, x3, v => if (v.1 (b + 10) 1) ≤ x3 then x2 else (f_X2_coinsOf_4 b  n x1 (x2 + (v.1 (b + 17 + 1 + (x3).toNatClampNeg) x1.toNatClampNeg)) (x3 + 1) v)
def p_X2_coinsOf_4 (b : Nat) : Nat → Int32 → Int32 → Int32 → gV → Prop
  | 0, _, _, _, _ => False
  | n + 1, x1, x2, x3, v => (((v.1 (b + 10) 1) ≤ x3) → (True)) ∧ (¬ ((v.1 (b + 10) 1) ≤ x3) → ((vp_in x3 12) ∧ ((vp_in x1 4) ∧ (p_X2_coinsOf_4 b   n x1 (x2 + (v.1 (b + 17 + 1 + (x3).toNatClampNeg) x1.toNatClampNeg)) (x3 + 1) v))))
set_option maxHeartbeats 4000000 in
set_option maxRecDepth 100000 in
theorem w_X2_coinsOf_4 {E : gE} {d : Nat} {Q : gO → gS → Prop} (b : Nat) (hb : isBk b) (hd : 0 ≤ d) : ∀ (n : Nat) (x1 : Int32) (x2 : Int32) (x3 : Int32) (v : gV), p_X2_coinsOf_4 b   n x1 x2 x3 v → gqI Q v (f_X2_coinsOf_4 b  n x1 x2 x3 v) → gG E m_X2_coinsOf d Q 0 0 (rS v) 4 [(0, .ref (gX E + (b + 10))), (1, .int x1), (2, .int x2), (3, .int x3)] [] := by
  intro n
  induction n with
  | zero => intro x1 x2 x3 v hp; exact hp.elim
  | succ n ih =>
    intro x1 x2 x3 v hp hQ
    refine g_iload_n 3 dX2_coinsOf_4 rfl ?_
    refine g_aload_n 0 dX2_coinsOf_5 rfl ?_
    refine r_get (.int (v.1 (b + 10) 1)) f_X2_62_X2 rfl (kb_10 hb) (lt_b hb (by decide)) dX2_coinsOf_6 (fun _ => rfl) ?_
    refine g_icmp_ge 29 dX2_coinsOf_9 (by decide) (fun h1 => ?_) (fun h1 => ?_)
    · have hQ := qp (P := gqI Q v) h1 hQ
      have hp := hp.1 h1
      refine g_iload_n 2 dX2_coinsOf_29 rfl ?_
      exact g_iret rfl dX2_coinsOf_30 hQ
    · have hQ := qn (P := gqI Q v) h1 hQ
      have hp := hp.2 h1
      refine g_iload_n 2 dX2_coinsOf_12 rfl ?_
      refine g_aload_n 0 dX2_coinsOf_13 rfl ?_
      refine r_get (.ref (gX E + (b + 17))) f_X2_30_X2 rfl (kb_10 hb) (lt_b hb (by decide)) dX2_coinsOf_14 (fun _ => rfl) ?_
      refine g_iload_n 3 dX2_coinsOf_17 rfl ?_
      obtain ⟨h2, hp⟩ := hp
      refine r_aald (kb_17 hb) (lt_b hb (by decide)) h2 (by decide) dX2_coinsOf_18 ?_
      refine g_iload_n 1 dX2_coinsOf_19 rfl ?_
      obtain ⟨h3, hp⟩ := hp
      refine g_iald (kg_17 hb h2) (lg_17 hb h2) h3 dX2_coinsOf_20 ?_
      refine g_iadd dX2_coinsOf_21 ?_
      refine g_istore_n [(2, .int (x2 + (v.1 (b + 17 + 1 + (x3).toNatClampNeg) x1.toNatClampNeg))), (0, .ref (gX E + (b + 10))), (1, .int x1), (3, .int x3)] dX2_coinsOf_22 rfl (by decide) rfl ?_
      refine g_iinc 3 (x3 + 1) [(3, .int (x3 + 1)), (2, .int (x2 + (v.1 (b + 17 + 1 + (x3).toNatClampNeg) x1.toNatClampNeg))), (0, .ref (gX E + (b + 10))), (1, .int x1)] dX2_coinsOf_23 rfl rfl (by decide) rfl ?_
      refine g_goto 4 dX2_coinsOf_26 (by decide) ?_
      refine g_lv (lv' := [(0, .ref (gX E + (b + 10))), (1, .int x1), (2, .int (x2 + (v.1 (b + 17 + 1 + (x3).toNatClampNeg) x1.toNatClampNeg))), (3, .int (x3 + 1))]) [2, 3, 1, 0] rfl ?_
      exact ih x1 (x2 + (v.1 (b + 17 + 1 + (x3).toNatClampNeg) x1.toNatClampNeg)) (x3 + 1) v hp hQ
def f_X2_coinsOf_0 (b : Nat) (x1 : Int32) (v : gV) : Int32 := f_X2_coinsOf_4 b  5000 x1 (0 : Int32) (0 : Int32) v
def p_X2_coinsOf_0 (b : Nat) (x1 : Int32) (v : gV) : Prop := p_X2_coinsOf_4 b   5000 x1 (0 : Int32) (0 : Int32) v
set_option maxHeartbeats 4000000 in
set_option maxRecDepth 100000 in
theorem w_X2_coinsOf_0 {E : gE} {d : Nat} {Q : gO → gS → Prop} (b : Nat) (hb : isBk b) (hd : 0 ≤ d) (x1 : Int32) (v : gV) (hp : p_X2_coinsOf_0 b   x1 v) (hQ : gqI Q v (f_X2_coinsOf_0 b  x1 v)) : gG E m_X2_coinsOf d Q 0 0 (rS v) 0 [(0, .ref (gX E + (b + 10))), (1, .int x1)] [] := by
  refine g_iconst dX2_coinsOf_0 (0 : Int32) (by decide) ?_
  refine g_istore_n [(2, .int ((0 : Int32))), (0, .ref (gX E + (b + 10))), (1, .int x1)] dX2_coinsOf_1 rfl (by decide) rfl ?_
  refine g_iconst dX2_coinsOf_2 (0 : Int32) (by decide) ?_
  refine g_istore_n [(3, .int ((0 : Int32))), (2, .int ((0 : Int32))), (0, .ref (gX E + (b + 10))), (1, .int x1)] dX2_coinsOf_3 rfl (by decide) rfl ?_
  refine g_lv (lv' := [(0, .ref (gX E + (b + 10))), (1, .int x1), (2, .int ((0 : Int32))), (3, .int ((0 : Int32)))]) [2, 3, 1, 0] rfl ?_
  exact w_X2_coinsOf_4 b hb hd    5000 x1 (0 : Int32) (0 : Int32) v hp hQ
def f_X2_coinsOf (b : Nat) (x1 : Int32) (v : gV) : Int32 := f_X2_coinsOf_0 b x1 v
def p_X2_coinsOf (b : Nat) (x1 : Int32) (v : gV) : Prop := p_X2_coinsOf_0 b x1 v
theorem c_X2_coinsOf {E : gE} {d : Nat} (b : Nat) (hb : isBk b) (hd : 0 ≤ d) (x1 : Int32) (v : gV) (hp : p_X2_coinsOf b x1 v) : CT E m_X2_coinsOf d 0 0 [.ref (gX E + (b + 10)), .int x1] (rS v) (Cq (.inl (some (.int (f_X2_coinsOf b x1 v)))) v) := CT.of ok_X2_coinsOf rfl (Nat.le_of_ble_eq_true rfl) (w_X2_coinsOf_0 b hb hd x1 v hp ⟨rfl, rfl⟩)
def f_X2_isAhead_52 (b : Nat) (s0 : Int32) (v : gV) : Int32 := s0
def p_X2_isAhead_52 (b : Nat) (s0 : Int32) (v : gV) : Prop := (narrow .boolean (.int s0) = .int s0) ∧ (True)
set_option maxHeartbeats 4000000 in
set_option maxRecDepth 100000 in
theorem w_X2_isAhead_52 {E : gE} {d : Nat} {Q : gO → gS → Prop} (b : Nat) (hb : isBk b) (hd : 1 ≤ d) (s0 : Int32) (v : gV) (hp : p_X2_isAhead_52 b   s0 v) (hQ : gqI Q v (f_X2_isAhead_52 b  s0 v)) : gG E m_X2_isAhead d Q 0 0 (rS v) 52 [] [.int s0] := by
  obtain ⟨h7, hp⟩ := hp
  exact g_zret rfl h7 dX2_isAhead_52 hQ
def f_X2_isAhead_31 (b : Nat) (s0 : Int32) (v : gV) : Int32 := s0
def p_X2_isAhead_31 (b : Nat) (s0 : Int32) (v : gV) : Prop := (narrow .boolean (.int s0) = .int s0) ∧ (True)
set_option maxHeartbeats 4000000 in
set_option maxRecDepth 100000 in
theorem w_X2_isAhead_31 {E : gE} {d : Nat} {Q : gO → gS → Prop} (b : Nat) (hb : isBk b) (hd : 1 ≤ d) (s0 : Int32) (v : gV) (hp : p_X2_isAhead_31 b   s0 v) (hQ : gqI Q v (f_X2_isAhead_31 b  s0 v)) : gG E m_X2_isAhead d Q 0 0 (rS v) 31 [] [.int s0] := by
  obtain ⟨h11, hp⟩ := hp
  exact g_zret rfl h11 dX2_isAhead_31 hQ
def f_X2_isAhead_0 (b : Nat) (x1 : Int32) (x2 : Int32) (v : gV) : Int32 := if (f_X2_unpaidAt b x1 v) = (f_X2_unpaidAt b x2 v) then (if (v.1 (b + 11) x2.toNatClampNeg) ≤ (v.1 (b + 11) x1.toNatClampNeg) then (f_X2_isAhead_52 b  (0 : Int32) v) else (f_X2_isAhead_52 b  (1 : Int32) v)) else (if (f_X2_unpaidAt b x1 v) ≤ (f_X2_unpaidAt b x2 v) then (f_X2_isAhead_31 b  (0 : Int32) v) else (f_X2_isAhead_31 b  (1 : Int32) v))
def p_X2_isAhead_0 (b : Nat) (x1 : Int32) (x2 : Int32) (v : gV) : Prop := (p_X2_unpaidAt b x1 v) ∧ ((p_X2_unpaidAt b x2 v) ∧ ((((f_X2_unpaidAt b x1 v) = (f_X2_unpaidAt b x2 v)) → ((vp_in x1 12) ∧ ((vp_in x2 12) ∧ ((((v.1 (b + 11) x2.toNatClampNeg) ≤ (v.1 (b + 11) x1.toNatClampNeg)) → (p_X2_isAhead_52 b   (0 : Int32) v)) ∧ (¬ ((v.1 (b + 11) x2.toNatClampNeg) ≤ (v.1 (b + 11) x1.toNatClampNeg)) → (p_X2_isAhead_52 b   (1 : Int32) v)))))) ∧ (¬ ((f_X2_unpaidAt b x1 v) = (f_X2_unpaidAt b x2 v)) → ((p_X2_unpaidAt b x1 v) ∧ ((p_X2_unpaidAt b x2 v) ∧ ((((f_X2_unpaidAt b x1 v) ≤ (f_X2_unpaidAt b x2 v)) → (p_X2_isAhead_31 b   (0 : Int32) v)) ∧ (¬ ((f_X2_unpaidAt b x1 v) ≤ (f_X2_unpaidAt b x2 v)) → (p_X2_isAhead_31 b   (1 : Int32) v))))))))
set_option maxHeartbeats 4000000 in
set_option maxRecDepth 100000 in
theorem w_X2_isAhead_0 {E : gE} {d : Nat} {Q : gO → gS → Prop} (b : Nat) (hb : isBk b) (hd : 1 ≤ d) (x1 : Int32) (x2 : Int32) (v : gV) (hp : p_X2_isAhead_0 b   x1 x2 v) (hQ : gqI Q v (f_X2_isAhead_0 b  x1 x2 v)) : gG E m_X2_isAhead d Q 0 0 (rS v) 0 [(0, .ref (gX E + (b + 10))), (1, .int x1), (2, .int x2)] [] := by
  refine g_aload_n 0 dX2_isAhead_0 rfl ?_
  refine g_iload_n 1 dX2_isAhead_1 rfl ?_
  obtain ⟨h1, hp⟩ := hp
  refine g_callV (rest := []) s_X2_66_X2 rfl (c_X2_unpaidAt (E := E) (d := d - 1) b hb (by omega) x1 v h1) (kb_10 hb) (lt_b hb (by decide)) rfl rfl (Nat.le_of_ble_eq_true rfl) (by omega) (by decide) (by decide) dX2_isAhead_2 (adV ?_) axN
  refine g_aload_n 0 dX2_isAhead_5 rfl ?_
  refine g_iload_n 2 dX2_isAhead_6 rfl ?_
  obtain ⟨h2, hp⟩ := hp
  refine g_callV (rest := [.int ((f_X2_unpaidAt b x1 v))]) s_X2_66_X2 rfl (c_X2_unpaidAt (E := E) (d := d - 1) b hb (by omega) x2 v h2) (kb_10 hb) (lt_b hb (by decide)) rfl rfl (Nat.le_of_ble_eq_true rfl) (by omega) (by decide) (by decide) dX2_isAhead_7 (adV ?_) axN
  refine g_icmp_eq 32 dX2_isAhead_10 (by decide) (fun h3 => ?_) (fun h3 => ?_)
  · have hQ := qp (P := gqI Q v) h3 hQ
    have hp := hp.1 h3
    refine g_aload_n 0 dX2_isAhead_32 rfl ?_
    refine r_get (.ref (gX E + (b + 11))) f_X2_70_X2 rfl (kb_10 hb) (lt_b hb (by decide)) dX2_isAhead_33 (fun _ => rfl) ?_
    refine g_iload_n 1 dX2_isAhead_36 rfl ?_
    obtain ⟨h4, hp⟩ := hp
    refine g_iald (kb_11 hb) (lt_b hb (by decide)) h4 dX2_isAhead_37 ?_
    refine g_aload_n 0 dX2_isAhead_38 rfl ?_
    refine r_get (.ref (gX E + (b + 11))) f_X2_70_X2 rfl (kb_10 hb) (lt_b hb (by decide)) dX2_isAhead_39 (fun _ => rfl) ?_
    refine g_iload_n 2 dX2_isAhead_42 rfl ?_
    obtain ⟨h5, hp⟩ := hp
    refine g_iald (kb_11 hb) (lt_b hb (by decide)) h5 dX2_isAhead_43 ?_
    refine g_icmp_ge 51 dX2_isAhead_44 (by decide) (fun h6 => ?_) (fun h6 => ?_)
    · have hQ := qp (P := gqI Q v) h6 hQ
      have hp := hp.1 h6
      refine g_iconst dX2_isAhead_51 (0 : Int32) (by decide) ?_
      refine g_lv (lv' := []) [] rfl ?_
      exact w_X2_isAhead_52 b hb hd    (0 : Int32) v hp hQ
    · have hQ := qn (P := gqI Q v) h6 hQ
      have hp := hp.2 h6
      refine g_iconst dX2_isAhead_47 (1 : Int32) (by decide) ?_
      refine g_goto 52 dX2_isAhead_48 (by decide) ?_
      refine g_lv (lv' := []) [] rfl ?_
      exact w_X2_isAhead_52 b hb hd    (1 : Int32) v hp hQ
  · have hQ := qn (P := gqI Q v) h3 hQ
    have hp := hp.2 h3
    refine g_aload_n 0 dX2_isAhead_13 rfl ?_
    refine g_iload_n 1 dX2_isAhead_14 rfl ?_
    obtain ⟨h8, hp⟩ := hp
    refine g_callV (rest := []) s_X2_66_X2 rfl (c_X2_unpaidAt (E := E) (d := d - 1) b hb (by omega) x1 v h8) (kb_10 hb) (lt_b hb (by decide)) rfl rfl (Nat.le_of_ble_eq_true rfl) (by omega) (by decide) (by decide) dX2_isAhead_15 (adV ?_) axN
    refine g_aload_n 0 dX2_isAhead_18 rfl ?_
    refine g_iload_n 2 dX2_isAhead_19 rfl ?_
    obtain ⟨h9, hp⟩ := hp
    refine g_callV (rest := [.int ((f_X2_unpaidAt b x1 v))]) s_X2_66_X2 rfl (c_X2_unpaidAt (E := E) (d := d - 1) b hb (by omega) x2 v h9) (kb_10 hb) (lt_b hb (by decide)) rfl rfl (Nat.le_of_ble_eq_true rfl) (by omega) (by decide) (by decide) dX2_isAhead_20 (adV ?_) axN
    refine g_icmp_le 30 dX2_isAhead_23 (by decide) (fun h10 => ?_) (fun h10 => ?_)
    · have hQ := qp (P := gqI Q v) h10 hQ
      have hp := hp.1 h10
      refine g_iconst dX2_isAhead_30 (0 : Int32) (by decide) ?_
      refine g_lv (lv' := []) [] rfl ?_
      exact w_X2_isAhead_31 b hb hd    (0 : Int32) v hp hQ
    · have hQ := qn (P := gqI Q v) h10 hQ
      have hp := hp.2 h10
      refine g_iconst dX2_isAhead_26 (1 : Int32) (by decide) ?_
      refine g_goto 31 dX2_isAhead_27 (by decide) ?_
      refine g_lv (lv' := []) [] rfl ?_
      exact w_X2_isAhead_31 b hb hd    (1 : Int32) v hp hQ
def f_X2_isAhead (b : Nat) (x1 : Int32) (x2 : Int32) (v : gV) : Int32 := f_X2_isAhead_0 b x1 x2 v
def p_X2_isAhead (b : Nat) (x1 : Int32) (x2 : Int32) (v : gV) : Prop := p_X2_isAhead_0 b x1 x2 v
theorem c_X2_isAhead {E : gE} {d : Nat} (b : Nat) (hb : isBk b) (hd : 1 ≤ d) (x1 : Int32) (x2 : Int32) (v : gV) (hp : p_X2_isAhead b x1 x2 v) : CT E m_X2_isAhead d 0 0 [.ref (gX E + (b + 10)), .int x1, .int x2] (rS v) (Cq (.inl (some (.int (f_X2_isAhead b x1 x2 v)))) v) := CT.of ok_X2_isAhead rfl (Nat.le_of_ble_eq_true rfl) (w_X2_isAhead_0 b hb hd x1 x2 v hp ⟨rfl, rfl⟩)
def f_X3_forget_5   (v : gV) : gV := v
def p_X3_forget_5   (v : gV) : Prop := True
set_option maxHeartbeats 4000000 in
set_option maxRecDepth 100000 in
theorem w_X3_forget_5 {E : gE} {d : Nat} {Q : gO → gS → Prop}   (hd : 0 ≤ d)  (v : gV) (hp : p_X3_forget_5    v) (hQ : gqV Q v (f_X3_forget_5   v)) : gG E m_X3_forget d Q 0 0 (rS v) 5 [] [] := by
  exact g_vret rfl dX3_forget_5 hQ
def f_X3_forget_0   (v : gV) : gV := f_X3_forget_5   (vM v 101 2 (0 : Int32))
def p_X3_forget_0   (v : gV) : Prop := p_X3_forget_5    (vM v 101 2 (0 : Int32))
set_option maxHeartbeats 4000000 in
set_option maxRecDepth 100000 in
theorem w_X3_forget_0 {E : gE} {d : Nat} {Q : gO → gS → Prop}   (hd : 0 ≤ d)  (v : gV) (hp : p_X3_forget_0    v) (hQ : gqV Q v (f_X3_forget_0   v)) : gG E m_X3_forget d Q 0 0 (rS v) 0 [(0, .ref (gX E + 101))] [] := by
  refine g_aload_n 0 dX3_forget_0 rfl ?_
  refine g_iconst dX3_forget_1 (0 : Int32) (by decide) ?_
  refine r_put pf_X3_22_X3 rfl (by decide : kd 101 = (0, 2)) (by decide) (by decide) rfl (by decide) rfl rfl dX3_forget_2 ?_
  refine g_lv (lv' := []) [] rfl ?_
  exact w_X3_forget_5  hd     (vM v 101 2 (0 : Int32)) hp hQ
def f_X3_forget   (v : gV) : gV := f_X3_forget_0  v
def p_X3_forget   (v : gV) : Prop := p_X3_forget_0  v
theorem c_X3_forget {E : gE} {d : Nat}   (hd : 0 ≤ d)  (v : gV) (hp : p_X3_forget  v) : CT E m_X3_forget d 0 0 [.ref (gX E + 101)] (rS v) (Cq (.inl none) (f_X3_forget  v)) := CT.of ok_X3_forget rfl (Nat.le_of_ble_eq_true rfl) (w_X3_forget_0  hd  v hp ⟨rfl, rfl⟩)
def f_X4_priceUntil_84 (b : Nat) (K7 : Int32 → Int32 → Int32 → Int32 → gV → Int32)  (x1 : Int32) (x2 : Int32) (x3 : Int32) (x4 : Int32) (v : gV) : Int32 := K7 x1 x2 x3 (x4 + 1) v
def p_X4_priceUntil_84 (b : Nat) (K7 : Int32 → Int32 → Int32 → Int32 → gV → Int32)  (PK7 : Int32 → Int32 → Int32 → Int32 → gV → Prop)  (x1 : Int32) (x2 : Int32) (x3 : Int32) (x4 : Int32) (v : gV) : Prop := PK7 x1 x2 x3 (x4 + 1) v
set_option maxHeartbeats 4000000 in
set_option maxRecDepth 100000 in
theorem w_X4_priceUntil_84 {E : gE} {d : Nat} {Q : gO → gS → Prop} (b : Nat) (hb : isBk b) (hd : 1 ≤ d) (K7 : Int32 → Int32 → Int32 → Int32 → gV → Int32)  (PK7 : Int32 → Int32 → Int32 → Int32 → gV → Prop)  (hK7 : ∀ (x1 : Int32) (x2 : Int32) (x3 : Int32) (x4 : Int32) (v : gV), PK7 x1 x2 x3 x4 v → gqI Q v (K7 x1 x2 x3 x4 v) → gG E m_X4_priceUntil d Q 0 0 (rS v) 7 [(0, .ref (gX E + (b + 45))), (1, .int x1), (2, .int x2), (3, .int x3), (4, .int x4)] [])  (x1 : Int32) (x2 : Int32) (x3 : Int32) (x4 : Int32) (v : gV) (hp : p_X4_priceUntil_84 b K7 PK7 x1 x2 x3 x4 v) (hQ : gqI Q v (f_X4_priceUntil_84 b K7 x1 x2 x3 x4 v)) : gG E m_X4_priceUntil d Q 0 0 (rS v) 84 [(0, .ref (gX E + (b + 45))), (1, .int x1), (2, .int x2), (3, .int x3), (4, .int x4)] [] := by
  refine g_iinc 4 (x4 + 1) [(4, .int (x4 + 1)), (0, .ref (gX E + (b + 45))), (1, .int x1), (2, .int x2), (3, .int x3)] dX4_priceUntil_84 rfl rfl (by decide) rfl ?_
  refine g_goto 7 dX4_priceUntil_87 (by decide) ?_
  refine g_lv (lv' := [(0, .ref (gX E + (b + 45))), (1, .int x1), (2, .int x2), (3, .int x3), (4, .int (x4 + 1))]) [1, 2, 3, 4, 0] rfl ?_
  exact hK7 x1 x2 x3 (x4 + 1) v hp hQ
def f_X4_priceUntil_67 (b : Nat) (K7 : Int32 → Int32 → Int32 → Int32 → gV → Int32)  (x1 : Int32) (x2 : Int32) (x3 : Int32) (x4 : Int32) (s0 : Int32) (v : gV) : Int32 := f_X4_priceUntil_84 b K7 x1 x2 (if (s0 + (v.1 (b + 48) x4.toNatClampNeg)) < x3 then (s0 + (v.1 (b + 48) x4.toNatClampNeg)) else x3) x4 v
def p_X4_priceUntil_67 (b : Nat) (K7 : Int32 → Int32 → Int32 → Int32 → gV → Int32)  (PK7 : Int32 → Int32 → Int32 → Int32 → gV → Prop)  (x1 : Int32) (x2 : Int32) (x3 : Int32) (x4 : Int32) (s0 : Int32) (v : gV) : Prop := (vp_in x4 8) ∧ (p_X4_priceUntil_84 b K7 PK7 x1 x2 (if (s0 + (v.1 (b + 48) x4.toNatClampNeg)) < x3 then (s0 + (v.1 (b + 48) x4.toNatClampNeg)) else x3) x4 v)
set_option maxHeartbeats 4000000 in
set_option maxRecDepth 100000 in
theorem w_X4_priceUntil_67 {E : gE} {d : Nat} {Q : gO → gS → Prop} (b : Nat) (hb : isBk b) (hd : 1 ≤ d) (K7 : Int32 → Int32 → Int32 → Int32 → gV → Int32)  (PK7 : Int32 → Int32 → Int32 → Int32 → gV → Prop)  (hK7 : ∀ (x1 : Int32) (x2 : Int32) (x3 : Int32) (x4 : Int32) (v : gV), PK7 x1 x2 x3 x4 v → gqI Q v (K7 x1 x2 x3 x4 v) → gG E m_X4_priceUntil d Q 0 0 (rS v) 7 [(0, .ref (gX E + (b + 45))), (1, .int x1), (2, .int x2), (3, .int x3), (4, .int x4)] [])  (x1 : Int32) (x2 : Int32) (x3 : Int32) (x4 : Int32) (s0 : Int32) (v : gV) (hp : p_X4_priceUntil_67 b K7 PK7 x1 x2 x3 x4 s0 v) (hQ : gqI Q v (f_X4_priceUntil_67 b K7 x1 x2 x3 x4 s0 v)) : gG E m_X4_priceUntil d Q 0 0 (rS v) 67 [(0, .ref (gX E + (b + 45))), (1, .int x1), (2, .int x2), (3, .int x3), (4, .int x4)] [.int s0] := by
  refine g_istore [(5, .int s0), (0, .ref (gX E + (b + 45))), (1, .int x1), (2, .int x2), (3, .int x3), (4, .int x4)] dX4_priceUntil_67 (by decide) rfl ?_
  refine g_iload_n 4 dX4_priceUntil_69 rfl ?_
  refine g_iload 0 dX4_priceUntil_70 rfl ?_
  refine g_aload_n 1 dX4_priceUntil_72 rfl ?_
  refine r_get (.ref (gX E + (b + 48))) f_X4_18_X4 rfl (kb_45 hb) (lt_b hb (by decide)) dX4_priceUntil_73 (fun _ => rfl) ?_
  refine g_iload 5 dX4_priceUntil_76 rfl ?_
  obtain ⟨h10, hp⟩ := hp
  refine g_iald (kb_48 hb) (lt_b hb (by decide)) h10 dX4_priceUntil_78 ?_
  refine g_iadd dX4_priceUntil_79 ?_
  refine r_mmin mw_X4_50 rfl (Nat.le_of_ble_eq_true rfl) (by omega) dX4_priceUntil_80 ?_
  refine g_istore_n [(3, .int ((if (s0 + (v.1 (b + 48) x4.toNatClampNeg)) < x3 then (s0 + (v.1 (b + 48) x4.toNatClampNeg)) else x3))), (5, .int s0), (0, .ref (gX E + (b + 45))), (1, .int x1), (2, .int x2), (4, .int x4)] dX4_priceUntil_83 rfl (by decide) rfl ?_
  refine g_lv (lv' := [(0, .ref (gX E + (b + 45))), (1, .int x1), (2, .int x2), (3, .int ((if (s0 + (v.1 (b + 48) x4.toNatClampNeg)) < x3 then (s0 + (v.1 (b + 48) x4.toNatClampNeg)) else x3))), (4, .int x4)]) [2, 3, 4, 0, 5] rfl ?_
  exact w_X4_priceUntil_84 b hb hd K7 PK7 hK7 x1 x2 (if (s0 + (v.1 (b + 48) x4.toNatClampNeg)) < x3 then (s0 + (v.1 (b + 48) x4.toNatClampNeg)) else x3) x4 v hp hQ
def f_X4_priceUntil_7 (b : Nat) : Nat → Int32 → Int32 → Int32 → Int32 → gV → Int32
  | 0, _, _, _, _, v => 0
  | n + 1, x1, x2, x3, x4, v => if (v.1 (b + 45) 4) ≤ x4 then x3 else (if x2 < (v.1 (b + 46) x4.toNatClampNeg) then (f_X4_priceUntil_84 b (fun x1 x2 x3 x4 v => f_X4_priceUntil_7 b  n x1 x2 x3 x4 v) x1 x2 x3 x4 v) else (if (v.1 (b + 47) x4.toNatClampNeg) < x2 then (f_X4_priceUntil_84 b (fun x1 x2 x3 x4 v => f_X4_priceUntil_7 b  n x1 x2 x3 x4 v) x1 x2 x3 x4 v) else (if x1 < (v.1 (b + 46) x4.toNatClampNeg) then (f_X4_priceUntil_67 b (fun x1 x2 x3 x4 v => f_X4_priceUntil_7 b  n x1 x2 x3 x4 v) x1 x2 x3 x4 (v.1 (b + 49) ((v.1 (b + 46) x4.toNatClampNeg) - (1 : Int32)).toNatClampNeg) v) else (f_X4_priceUntil_67 b (fun x1 x2 x3 x4 v => f_X4_priceUntil_7 b  n x1 x2 x3 x4 v) x1 x2 x3 x4 (0 : Int32) v))))
def p_X4_priceUntil_7 (b : Nat) : Nat → Int32 → Int32 → Int32 → Int32 → gV → Prop
  | 0, _, _, _, _, _ => False
  | n + 1, x1, x2, x3, x4, v => (((v.1 (b + 45) 4) ≤ x4) → (True)) ∧ (¬ ((v.1 (b + 45) 4) ≤ x4) → ((vp_in x4 8) ∧ (((x2 < (v.1 (b + 46) x4.toNatClampNeg)) → (p_X4_priceUntil_84 b (fun x1 x2 x3 x4 v => f_X4_priceUntil_7 b  n x1 x2 x3 x4 v) (fun x1 x2 x3 x4 v => p_X4_priceUntil_7 b   n x1 x2 x3 x4 v) x1 x2 x3 x4 v)) ∧ (¬ (x2 < (v.1 (b + 46) x4.toNatClampNeg)) → ((vp_in x4 8) ∧ ((((v.1 (b + 47) x4.toNatClampNeg) < x2) → (p_X4_priceUntil_84 b (fun x1 x2 x3 x4 v => f_X4_priceUntil_7 b  n x1 x2 x3 x4 v) (fun x1 x2 x3 x4 v => p_X4_priceUntil_7 b   n x1 x2 x3 x4 v) x1 x2 x3 x4 v)) ∧ (¬ ((v.1 (b + 47) x4.toNatClampNeg) < x2) → ((vp_in x4 8) ∧ (((x1 < (v.1 (b + 46) x4.toNatClampNeg)) → ((vp_in x4 8) ∧ ((vp_in ((v.1 (b + 46) x4.toNatClampNeg) - (1 : Int32)) 100) ∧ (p_X4_priceUntil_67 b (fun x1 x2 x3 x4 v => f_X4_priceUntil_7 b  n x1 x2 x3 x4 v) (fun x1 x2 x3 x4 v => p_X4_priceUntil_7 b   n x1 x2 x3 x4 v) x1 x2 x3 x4 (v.1 (b + 49) ((v.1 (b + 46) x4.toNatClampNeg) - (1 : Int32)).toNatClampNeg) v)))) ∧ (¬ (x1 < (v.1 (b + 46) x4.toNatClampNeg)) → (p_X4_priceUntil_67 b (fun x1 x2 x3 x4 v => f_X4_priceUntil_7 b  n x1 x2 x3 x4 v) (fun x1 x2 x3 x4 v => p_X4_priceUntil_7 b   n x1 x2 x3 x4 v) x1 x2 x3 x4 (0 : Int32) v)))))))))))
set_option maxHeartbeats 4000000 in
set_option maxRecDepth 100000 in
theorem w_X4_priceUntil_7 {E : gE} {d : Nat} {Q : gO → gS → Prop} (b : Nat) (hb : isBk b) (hd : 1 ≤ d) : ∀ (n : Nat) (x1 : Int32) (x2 : Int32) (x3 : Int32) (x4 : Int32) (v : gV), p_X4_priceUntil_7 b   n x1 x2 x3 x4 v → gqI Q v (f_X4_priceUntil_7 b  n x1 x2 x3 x4 v) → gG E m_X4_priceUntil d Q 0 0 (rS v) 7 [(0, .ref (gX E + (b + 45))), (1, .int x1), (2, .int x2), (3, .int x3), (4, .int x4)] [] := by
  intro n
  induction n with
  | zero => intro x1 x2 x3 x4 v hp; exact hp.elim
  | succ n ih =>
    intro x1 x2 x3 x4 v hp hQ
    refine g_iload 4 dX4_priceUntil_7 rfl ?_
    refine g_aload_n 0 dX4_priceUntil_9 rfl ?_
    refine r_get (.int (v.1 (b + 45) 4)) f_X4_28_X4 rfl (kb_45 hb) (lt_b hb (by decide)) dX4_priceUntil_10 (fun _ => rfl) ?_
    refine g_icmp_ge 90 dX4_priceUntil_13 (by decide) (fun h1 => ?_) (fun h1 => ?_)
    · have hQ := qp (P := gqI Q v) h1 hQ
      have hp := hp.1 h1
      refine g_iload_n 3 dX4_priceUntil_90 rfl ?_
      exact g_iret rfl dX4_priceUntil_91 hQ
    · have hQ := qn (P := gqI Q v) h1 hQ
      have hp := hp.2 h1
      refine g_aload_n 0 dX4_priceUntil_16 rfl ?_
      refine r_get (.ref (gX E + (b + 46))) f_X4_9_X4 rfl (kb_45 hb) (lt_b hb (by decide)) dX4_priceUntil_17 (fun _ => rfl) ?_
      refine g_iload 4 dX4_priceUntil_20 rfl ?_
      obtain ⟨h2, hp⟩ := hp
      refine g_iald (kb_46 hb) (lt_b hb (by decide)) h2 dX4_priceUntil_22 ?_
      refine g_iload_n 2 dX4_priceUntil_23 rfl ?_
      refine g_icmp_gt 84 dX4_priceUntil_24 (by decide) (fun h3 => ?_) (fun h3 => ?_)
      · have hQ := qp (P := gqI Q v) h3 hQ
        have hp := hp.1 h3
        exact w_X4_priceUntil_84 b hb hd (fun x1 x2 x3 x4 v => f_X4_priceUntil_7 b  n x1 x2 x3 x4 v) (fun x1 x2 x3 x4 v => p_X4_priceUntil_7 b   n x1 x2 x3 x4 v) ih x1 x2 x3 x4 v hp hQ
      · have hQ := qn (P := gqI Q v) h3 hQ
        have hp := hp.2 h3
        refine g_iload_n 2 dX4_priceUntil_27 rfl ?_
        refine g_aload_n 0 dX4_priceUntil_28 rfl ?_
        refine r_get (.ref (gX E + (b + 47))) f_X4_15_X4 rfl (kb_45 hb) (lt_b hb (by decide)) dX4_priceUntil_29 (fun _ => rfl) ?_
        refine g_iload 4 dX4_priceUntil_32 rfl ?_
        obtain ⟨h4, hp⟩ := hp
        refine g_iald (kb_47 hb) (lt_b hb (by decide)) h4 dX4_priceUntil_34 ?_
        refine g_icmp_gt 84 dX4_priceUntil_35 (by decide) (fun h5 => ?_) (fun h5 => ?_)
        · have hQ := qp (P := gqI Q v) h5 hQ
          have hp := hp.1 h5
          exact w_X4_priceUntil_84 b hb hd (fun x1 x2 x3 x4 v => f_X4_priceUntil_7 b  n x1 x2 x3 x4 v) (fun x1 x2 x3 x4 v => p_X4_priceUntil_7 b   n x1 x2 x3 x4 v) ih x1 x2 x3 x4 v hp hQ
        · have hQ := qn (P := gqI Q v) h5 hQ
          have hp := hp.2 h5
          refine g_aload_n 0 dX4_priceUntil_38 rfl ?_
          refine r_get (.ref (gX E + (b + 46))) f_X4_9_X4 rfl (kb_45 hb) (lt_b hb (by decide)) dX4_priceUntil_39 (fun _ => rfl) ?_
          refine g_iload 4 dX4_priceUntil_42 rfl ?_
          obtain ⟨h6, hp⟩ := hp
          refine g_iald (kb_46 hb) (lt_b hb (by decide)) h6 dX4_priceUntil_44 ?_
          refine g_iload_n 1 dX4_priceUntil_45 rfl ?_
          refine g_icmp_gt 53 dX4_priceUntil_46 (by decide) (fun h7 => ?_) (fun h7 => ?_)
          · have hQ := qp (P := gqI Q v) h7 hQ
            have hp := hp.1 h7
            refine g_aload_n 0 dX4_priceUntil_53 rfl ?_
            refine r_get (.ref (gX E + (b + 49))) f_X4_21_X4 rfl (kb_45 hb) (lt_b hb (by decide)) dX4_priceUntil_54 (fun _ => rfl) ?_
            refine g_aload_n 0 dX4_priceUntil_57 rfl ?_
            refine r_get (.ref (gX E + (b + 46))) f_X4_9_X4 rfl (kb_45 hb) (lt_b hb (by decide)) dX4_priceUntil_58 (fun _ => rfl) ?_
            refine g_iload 4 dX4_priceUntil_61 rfl ?_
            obtain ⟨h8, hp⟩ := hp
            refine g_iald (kb_46 hb) (lt_b hb (by decide)) h8 dX4_priceUntil_63 ?_
            refine g_iconst dX4_priceUntil_64 (1 : Int32) (by decide) ?_
            refine g_isub dX4_priceUntil_65 ?_
            obtain ⟨h9, hp⟩ := hp
            refine g_iald (kb_49 hb) (lt_b hb (by decide)) h9 dX4_priceUntil_66 ?_
            exact w_X4_priceUntil_67 b hb hd (fun x1 x2 x3 x4 v => f_X4_priceUntil_7 b  n x1 x2 x3 x4 v) (fun x1 x2 x3 x4 v => p_X4_priceUntil_7 b   n x1 x2 x3 x4 v) ih x1 x2 x3 x4 (v.1 (b + 49) ((v.1 (b + 46) x4.toNatClampNeg) - (1 : Int32)).toNatClampNeg) v hp hQ
          · have hQ := qn (P := gqI Q v) h7 hQ
            have hp := hp.2 h7
            refine g_iconst dX4_priceUntil_49 (0 : Int32) (by decide) ?_
            refine g_goto 67 dX4_priceUntil_50 (by decide) ?_
            exact w_X4_priceUntil_67 b hb hd (fun x1 x2 x3 x4 v => f_X4_priceUntil_7 b  n x1 x2 x3 x4 v) (fun x1 x2 x3 x4 v => p_X4_priceUntil_7 b   n x1 x2 x3 x4 v) ih x1 x2 x3 x4 (0 : Int32) v hp hQ
def f_X4_priceUntil_0 (b : Nat) (x1 : Int32) (x2 : Int32) (v : gV) : Int32 := f_X4_priceUntil_7 b  5000 x1 x2 (1000 : Int32) (0 : Int32) v
def p_X4_priceUntil_0 (b : Nat) (x1 : Int32) (x2 : Int32) (v : gV) : Prop := p_X4_priceUntil_7 b   5000 x1 x2 (1000 : Int32) (0 : Int32) v
set_option maxHeartbeats 4000000 in
set_option maxRecDepth 100000 in
theorem w_X4_priceUntil_0 {E : gE} {d : Nat} {Q : gO → gS → Prop} (b : Nat) (hb : isBk b) (hd : 1 ≤ d) (x1 : Int32) (x2 : Int32) (v : gV) (hp : p_X4_priceUntil_0 b   x1 x2 v) (hQ : gqI Q v (f_X4_priceUntil_0 b  x1 x2 v)) : gG E m_X4_priceUntil d Q 0 0 (rS v) 0 [(0, .ref (gX E + (b + 45))), (1, .int x1), (2, .int x2)] [] := by
  refine g_sipush dX4_priceUntil_0 (1000 : Int32) (by decide) ?_
  refine g_istore_n [(3, .int ((1000 : Int32))), (0, .ref (gX E + (b + 45))), (1, .int x1), (2, .int x2)] dX4_priceUntil_3 rfl (by decide) rfl ?_
  refine g_iconst dX4_priceUntil_4 (0 : Int32) (by decide) ?_
  refine g_istore [(4, .int ((0 : Int32))), (3, .int ((1000 : Int32))), (0, .ref (gX E + (b + 45))), (1, .int x1), (2, .int x2)] dX4_priceUntil_5 (by decide) rfl ?_
  refine g_lv (lv' := [(0, .ref (gX E + (b + 45))), (1, .int x1), (2, .int x2), (3, .int ((1000 : Int32))), (4, .int ((0 : Int32)))]) [2, 3, 4, 1, 0] rfl ?_
  exact w_X4_priceUntil_7 b hb hd    5000 x1 x2 (1000 : Int32) (0 : Int32) v hp hQ
def f_X4_priceUntil (b : Nat) (x1 : Int32) (x2 : Int32) (v : gV) : Int32 := f_X4_priceUntil_0 b x1 x2 v
def p_X4_priceUntil (b : Nat) (x1 : Int32) (x2 : Int32) (v : gV) : Prop := p_X4_priceUntil_0 b x1 x2 v
theorem c_X4_priceUntil {E : gE} {d : Nat} (b : Nat) (hb : isBk b) (hd : 1 ≤ d) (x1 : Int32) (x2 : Int32) (v : gV) (hp : p_X4_priceUntil b x1 x2 v) : CT E m_X4_priceUntil d 0 0 [.ref (gX E + (b + 45)), .int x1, .int x2] (rS v) (Cq (.inl (some (.int (f_X4_priceUntil b x1 x2 v)))) v) := CT.of ok_X4_priceUntil rfl (Nat.le_of_ble_eq_true rfl) (w_X4_priceUntil_0 b hb hd x1 x2 v hp ⟨rfl, rfl⟩)
def f_X4_priceOfSet_30 (b : Nat) (K4 : Int32 → Int32 → Int32 → gV → Int32)  (x1 : Int32) (x2 : Int32) (x3 : Int32) (v : gV) : Int32 := K4 x1 x2 (x3 + 1) v
def p_X4_priceOfSet_30 (b : Nat) (K4 : Int32 → Int32 → Int32 → gV → Int32)  (PK4 : Int32 → Int32 → Int32 → gV → Prop)  (x1 : Int32) (x2 : Int32) (x3 : Int32) (v : gV) : Prop := PK4 x1 x2 (x3 + 1) v
set_option maxHeartbeats 4000000 in
set_option maxRecDepth 100000 in
theorem w_X4_priceOfSet_30 {E : gE} {d : Nat} {Q : gO → gS → Prop} (b : Nat) (hb : isBk b) (hd : 0 ≤ d) (K4 : Int32 → Int32 → Int32 → gV → Int32)  (PK4 : Int32 → Int32 → Int32 → gV → Prop)  (hK4 : ∀ (x1 : Int32) (x2 : Int32) (x3 : Int32) (v : gV), PK4 x1 x2 x3 v → gqI Q v (K4 x1 x2 x3 v) → gG E m_X4_priceOfSet d Q 0 0 (rS v) 4 [(0, .ref (gX E + (b + 45))), (1, .int x1), (2, .int x2), (3, .int x3)] [])  (x1 : Int32) (x2 : Int32) (x3 : Int32) (v : gV) (hp : p_X4_priceOfSet_30 b K4 PK4 x1 x2 x3 v) (hQ : gqI Q v (f_X4_priceOfSet_30 b K4 x1 x2 x3 v)) : gG E m_X4_priceOfSet d Q 0 0 (rS v) 30 [(0, .ref (gX E + (b + 45))), (1, .int x1), (2, .int x2), (3, .int x3)] [] := by
  refine g_iinc 3 (x3 + 1) [(3, .int (x3 + 1)), (0, .ref (gX E + (b + 45))), (1, .int x1), (2, .int x2)] dX4_priceOfSet_30 rfl rfl (by decide) rfl ?_
  refine g_goto 4 dX4_priceOfSet_33 (by decide) ?_
  refine g_lv (lv' := [(0, .ref (gX E + (b + 45))), (1, .int x1), (2, .int x2), (3, .int (x3 + 1))]) [1, 2, 3, 0] rfl ?_
  exact hK4 x1 x2 (x3 + 1) v hp hQ
def f_X4_priceOfSet_4 (b : Nat) : Nat → Int32 → Int32 → Int32 → gV → Int32
  | 0, _, _, _, v => 0
  | n + 1, x1, x2, x3, v => if (v.1 (b + 45) 4) ≤ x3 then x2 else (if ((x1 >>> (x3 &&& 31)) &&& (1 : Int32)) = (1 : Int32) then (f_X4_priceOfSet_30 b (fun x1 x2 x3 v => f_X4_priceOfSet_4 b  n x1 x2 x3 v) x1 (x2 + (v.1 (b + 48) x3.toNatClampNeg)) x3 v) else (f_X4_priceOfSet_30 b (fun x1 x2 x3 v => f_X4_priceOfSet_4 b  n x1 x2 x3 v) x1 x2 x3 v))
def p_X4_priceOfSet_4 (b : Nat) : Nat → Int32 → Int32 → Int32 → gV → Prop
  | 0, _, _, _, _ => False
  | n + 1, x1, x2, x3, v => (((v.1 (b + 45) 4) ≤ x3) → (True)) ∧ (¬ ((v.1 (b + 45) 4) ≤ x3) → (((((x1 >>> (x3 &&& 31)) &&& (1 : Int32)) = (1 : Int32)) → ((vp_in x3 8) ∧ (p_X4_priceOfSet_30 b (fun x1 x2 x3 v => f_X4_priceOfSet_4 b  n x1 x2 x3 v) (fun x1 x2 x3 v => p_X4_priceOfSet_4 b   n x1 x2 x3 v) x1 (x2 + (v.1 (b + 48) x3.toNatClampNeg)) x3 v))) ∧ (¬ (((x1 >>> (x3 &&& 31)) &&& (1 : Int32)) = (1 : Int32)) → (p_X4_priceOfSet_30 b (fun x1 x2 x3 v => f_X4_priceOfSet_4 b  n x1 x2 x3 v) (fun x1 x2 x3 v => p_X4_priceOfSet_4 b   n x1 x2 x3 v) x1 x2 x3 v))))
set_option maxHeartbeats 4000000 in
set_option maxRecDepth 100000 in
theorem w_X4_priceOfSet_4 {E : gE} {d : Nat} {Q : gO → gS → Prop} (b : Nat) (hb : isBk b) (hd : 0 ≤ d) : ∀ (n : Nat) (x1 : Int32) (x2 : Int32) (x3 : Int32) (v : gV), p_X4_priceOfSet_4 b   n x1 x2 x3 v → gqI Q v (f_X4_priceOfSet_4 b  n x1 x2 x3 v) → gG E m_X4_priceOfSet d Q 0 0 (rS v) 4 [(0, .ref (gX E + (b + 45))), (1, .int x1), (2, .int x2), (3, .int x3)] [] := by
  intro n
  induction n with
  | zero => intro x1 x2 x3 v hp; exact hp.elim
  | succ n ih =>
    intro x1 x2 x3 v hp hQ
    refine g_iload_n 3 dX4_priceOfSet_4 rfl ?_
    refine g_aload_n 0 dX4_priceOfSet_5 rfl ?_
    refine r_get (.int (v.1 (b + 45) 4)) f_X4_28_X4 rfl (kb_45 hb) (lt_b hb (by decide)) dX4_priceOfSet_6 (fun _ => rfl) ?_
    refine g_icmp_ge 36 dX4_priceOfSet_9 (by decide) (fun h1 => ?_) (fun h1 => ?_)
    · have hQ := qp (P := gqI Q v) h1 hQ
      have hp := hp.1 h1
      refine g_iload_n 2 dX4_priceOfSet_36 rfl ?_
      exact g_iret rfl dX4_priceOfSet_37 hQ
    · have hQ := qn (P := gqI Q v) h1 hQ
      have hp := hp.2 h1
      refine g_iload_n 1 dX4_priceOfSet_12 rfl ?_
      refine g_iload_n 3 dX4_priceOfSet_13 rfl ?_
      refine g_ishr dX4_priceOfSet_14 ?_
      refine g_iconst dX4_priceOfSet_15 (1 : Int32) (by decide) ?_
      refine g_iand dX4_priceOfSet_16 ?_
      refine g_iconst dX4_priceOfSet_17 (1 : Int32) (by decide) ?_
      refine g_icmp_ne 30 dX4_priceOfSet_18 (by decide) (fun h2 => ?_) (fun h2 => ?_)
      · have hQ := qn (P := gqI Q v) h2 hQ
        have hp := hp.2 h2
        exact w_X4_priceOfSet_30 b hb hd (fun x1 x2 x3 v => f_X4_priceOfSet_4 b  n x1 x2 x3 v) (fun x1 x2 x3 v => p_X4_priceOfSet_4 b   n x1 x2 x3 v) ih x1 x2 x3 v hp hQ
      · have hQ := qp (P := gqI Q v) h2 hQ
        have hp := hp.1 h2
        refine g_iload_n 2 dX4_priceOfSet_21 rfl ?_
        refine g_aload_n 0 dX4_priceOfSet_22 rfl ?_
        refine r_get (.ref (gX E + (b + 48))) f_X4_18_X4 rfl (kb_45 hb) (lt_b hb (by decide)) dX4_priceOfSet_23 (fun _ => rfl) ?_
        refine g_iload_n 3 dX4_priceOfSet_26 rfl ?_
        obtain ⟨h3, hp⟩ := hp
        refine g_iald (kb_48 hb) (lt_b hb (by decide)) h3 dX4_priceOfSet_27 ?_
        refine g_iadd dX4_priceOfSet_28 ?_
        refine g_istore_n [(2, .int (x2 + (v.1 (b + 48) x3.toNatClampNeg))), (0, .ref (gX E + (b + 45))), (1, .int x1), (3, .int x3)] dX4_priceOfSet_29 rfl (by decide) rfl ?_
        refine g_lv (lv' := [(0, .ref (gX E + (b + 45))), (1, .int x1), (2, .int (x2 + (v.1 (b + 48) x3.toNatClampNeg))), (3, .int x3)]) [1, 2, 0, 3] rfl ?_
        exact w_X4_priceOfSet_30 b hb hd (fun x1 x2 x3 v => f_X4_priceOfSet_4 b  n x1 x2 x3 v) (fun x1 x2 x3 v => p_X4_priceOfSet_4 b   n x1 x2 x3 v) ih x1 (x2 + (v.1 (b + 48) x3.toNatClampNeg)) x3 v hp hQ
def f_X4_priceOfSet_0 (b : Nat) (x1 : Int32) (v : gV) : Int32 := f_X4_priceOfSet_4 b  5000 x1 (0 : Int32) (0 : Int32) v
def p_X4_priceOfSet_0 (b : Nat) (x1 : Int32) (v : gV) : Prop := p_X4_priceOfSet_4 b   5000 x1 (0 : Int32) (0 : Int32) v
set_option maxHeartbeats 4000000 in
set_option maxRecDepth 100000 in
theorem w_X4_priceOfSet_0 {E : gE} {d : Nat} {Q : gO → gS → Prop} (b : Nat) (hb : isBk b) (hd : 0 ≤ d) (x1 : Int32) (v : gV) (hp : p_X4_priceOfSet_0 b   x1 v) (hQ : gqI Q v (f_X4_priceOfSet_0 b  x1 v)) : gG E m_X4_priceOfSet d Q 0 0 (rS v) 0 [(0, .ref (gX E + (b + 45))), (1, .int x1)] [] := by
  refine g_iconst dX4_priceOfSet_0 (0 : Int32) (by decide) ?_
  refine g_istore_n [(2, .int ((0 : Int32))), (0, .ref (gX E + (b + 45))), (1, .int x1)] dX4_priceOfSet_1 rfl (by decide) rfl ?_
  refine g_iconst dX4_priceOfSet_2 (0 : Int32) (by decide) ?_
  refine g_istore_n [(3, .int ((0 : Int32))), (2, .int ((0 : Int32))), (0, .ref (gX E + (b + 45))), (1, .int x1)] dX4_priceOfSet_3 rfl (by decide) rfl ?_
  refine g_lv (lv' := [(0, .ref (gX E + (b + 45))), (1, .int x1), (2, .int ((0 : Int32))), (3, .int ((0 : Int32)))]) [2, 3, 1, 0] rfl ?_
  exact w_X4_priceOfSet_4 b hb hd    5000 x1 (0 : Int32) (0 : Int32) v hp hQ
def f_X4_priceOfSet (b : Nat) (x1 : Int32) (v : gV) : Int32 := f_X4_priceOfSet_0 b x1 v
def p_X4_priceOfSet (b : Nat) (x1 : Int32) (v : gV) : Prop := p_X4_priceOfSet_0 b x1 v
theorem c_X4_priceOfSet {E : gE} {d : Nat} (b : Nat) (hb : isBk b) (hd : 0 ≤ d) (x1 : Int32) (v : gV) (hp : p_X4_priceOfSet b x1 v) : CT E m_X4_priceOfSet d 0 0 [.ref (gX E + (b + 45)), .int x1] (rS v) (Cq (.inl (some (.int (f_X4_priceOfSet b x1 v)))) v) := CT.of ok_X4_priceOfSet rfl (Nat.le_of_ble_eq_true rfl) (w_X4_priceOfSet_0 b hb hd x1 v hp ⟨rfl, rfl⟩)
def f_X4_dayAfter_49 (b : Nat) (K5 : Int32 → Int32 → Int32 → Int32 → gV → Int32)  (x1 : Int32) (x2 : Int32) (x3 : Int32) (x4 : Int32) (v : gV) : Int32 := K5 x1 x2 x3 (x4 + 1) v
def p_X4_dayAfter_49 (b : Nat) (K5 : Int32 → Int32 → Int32 → Int32 → gV → Int32)  (PK5 : Int32 → Int32 → Int32 → Int32 → gV → Prop)  (x1 : Int32) (x2 : Int32) (x3 : Int32) (x4 : Int32) (v : gV) : Prop := PK5 x1 x2 x3 (x4 + 1) v
set_option maxHeartbeats 4000000 in
set_option maxRecDepth 100000 in
theorem w_X4_dayAfter_49 {E : gE} {d : Nat} {Q : gO → gS → Prop} (b : Nat) (hb : isBk b) (hd : 1 ≤ d) (K5 : Int32 → Int32 → Int32 → Int32 → gV → Int32)  (PK5 : Int32 → Int32 → Int32 → Int32 → gV → Prop)  (hK5 : ∀ (x1 : Int32) (x2 : Int32) (x3 : Int32) (x4 : Int32) (v : gV), PK5 x1 x2 x3 x4 v → gqI Q v (K5 x1 x2 x3 x4 v) → gG E m_X4_dayAfter d Q 0 0 (rS v) 5 [(0, .ref (gX E + (b + 45))), (1, .int x1), (2, .int x2), (3, .int x3), (4, .int x4)] [])  (x1 : Int32) (x2 : Int32) (x3 : Int32) (x4 : Int32) (v : gV) (hp : p_X4_dayAfter_49 b K5 PK5 x1 x2 x3 x4 v) (hQ : gqI Q v (f_X4_dayAfter_49 b K5 x1 x2 x3 x4 v)) : gG E m_X4_dayAfter d Q 0 0 (rS v) 49 [(0, .ref (gX E + (b + 45))), (1, .int x1), (2, .int x2), (3, .int x3), (4, .int x4)] [] := by
  refine g_iinc 4 (x4 + 1) [(4, .int (x4 + 1)), (0, .ref (gX E + (b + 45))), (1, .int x1), (2, .int x2), (3, .int x3)] dX4_dayAfter_49 rfl rfl (by decide) rfl ?_
  refine g_goto 5 dX4_dayAfter_52 (by decide) ?_
  refine g_lv (lv' := [(0, .ref (gX E + (b + 45))), (1, .int x1), (2, .int x2), (3, .int x3), (4, .int (x4 + 1))]) [1, 2, 3, 4, 0] rfl ?_
  exact hK5 x1 x2 x3 (x4 + 1) v hp hQ
def f_X4_dayAfter_5 (b : Nat) : Nat → Int32 → Int32 → Int32 → Int32 → gV → Int32
  | 0, _, _, _, _, v => 0
  | n + 1, x1, x2, x3, x4, v => if (v.1 (b + 45) 4) ≤ x4 then x3 else (if ((x1 >>> (x4 &&& 31)) &&& (1 : Int32)) = (1 : Int32) then (if x2 < (v.1 (b + 46) x4.toNatClampNeg) then (f_X4_dayAfter_49 b (fun x1 x2 x3 x4 v => f_X4_dayAfter_5 b  n x1 x2 x3 x4 v) x1 x2 x3 x4 v) else (f_X4_dayAfter_49 b (fun x1 x2 x3 x4 v => f_X4_dayAfter_5 b  n x1 x2 x3 x4 v) x1 x2 (if x3 < ((v.1 (b + 47) x4.toNatClampNeg) + (1 : Int32)) then ((v.1 (b + 47) x4.toNatClampNeg) + (1 : Int32)) else x3) x4 v)) else (f_X4_dayAfter_49 b (fun x1 x2 x3 x4 v => f_X4_dayAfter_5 b  n x1 x2 x3 x4 v) x1 x2 x3 x4 v))
def p_X4_dayAfter_5 (b : Nat) : Nat → Int32 → Int32 → Int32 → Int32 → gV → Prop
  | 0, _, _, _, _, _ => False
  | n + 1, x1, x2, x3, x4, v => (((v.1 (b + 45) 4) ≤ x4) → (True)) ∧ (¬ ((v.1 (b + 45) 4) ≤ x4) → (((((x1 >>> (x4 &&& 31)) &&& (1 : Int32)) = (1 : Int32)) → ((vp_in x4 8) ∧ (((x2 < (v.1 (b + 46) x4.toNatClampNeg)) → (p_X4_dayAfter_49 b (fun x1 x2 x3 x4 v => f_X4_dayAfter_5 b  n x1 x2 x3 x4 v) (fun x1 x2 x3 x4 v => p_X4_dayAfter_5 b   n x1 x2 x3 x4 v) x1 x2 x3 x4 v)) ∧ (¬ (x2 < (v.1 (b + 46) x4.toNatClampNeg)) → ((vp_in x4 8) ∧ (p_X4_dayAfter_49 b (fun x1 x2 x3 x4 v => f_X4_dayAfter_5 b  n x1 x2 x3 x4 v) (fun x1 x2 x3 x4 v => p_X4_dayAfter_5 b   n x1 x2 x3 x4 v) x1 x2 (if x3 < ((v.1 (b + 47) x4.toNatClampNeg) + (1 : Int32)) then ((v.1 (b + 47) x4.toNatClampNeg) + (1 : Int32)) else x3) x4 v)))))) ∧ (¬ (((x1 >>> (x4 &&& 31)) &&& (1 : Int32)) = (1 : Int32)) → (p_X4_dayAfter_49 b (fun x1 x2 x3 x4 v => f_X4_dayAfter_5 b  n x1 x2 x3 x4 v) (fun x1 x2 x3 x4 v => p_X4_dayAfter_5 b   n x1 x2 x3 x4 v) x1 x2 x3 x4 v))))
set_option maxHeartbeats 4000000 in
set_option maxRecDepth 100000 in
theorem w_X4_dayAfter_5 {E : gE} {d : Nat} {Q : gO → gS → Prop} (b : Nat) (hb : isBk b) (hd : 1 ≤ d) : ∀ (n : Nat) (x1 : Int32) (x2 : Int32) (x3 : Int32) (x4 : Int32) (v : gV), p_X4_dayAfter_5 b   n x1 x2 x3 x4 v → gqI Q v (f_X4_dayAfter_5 b  n x1 x2 x3 x4 v) → gG E m_X4_dayAfter d Q 0 0 (rS v) 5 [(0, .ref (gX E + (b + 45))), (1, .int x1), (2, .int x2), (3, .int x3), (4, .int x4)] [] := by
  intro n
  induction n with
  | zero => intro x1 x2 x3 x4 v hp; exact hp.elim
  | succ n ih =>
    intro x1 x2 x3 x4 v hp hQ
    refine g_iload 4 dX4_dayAfter_5 rfl ?_
    refine g_aload_n 0 dX4_dayAfter_7 rfl ?_
    refine r_get (.int (v.1 (b + 45) 4)) f_X4_28_X4 rfl (kb_45 hb) (lt_b hb (by decide)) dX4_dayAfter_8 (fun _ => rfl) ?_
    refine g_icmp_ge 55 dX4_dayAfter_11 (by decide) (fun h1 => ?_) (fun h1 => ?_)
    · have hQ := qp (P := gqI Q v) h1 hQ
      have hp := hp.1 h1
      refine g_iload_n 3 dX4_dayAfter_55 rfl ?_
      exact g_iret rfl dX4_dayAfter_56 hQ
    · have hQ := qn (P := gqI Q v) h1 hQ
      have hp := hp.2 h1
      refine g_iload_n 1 dX4_dayAfter_14 rfl ?_
      refine g_iload 4 dX4_dayAfter_15 rfl ?_
      refine g_ishr dX4_dayAfter_17 ?_
      refine g_iconst dX4_dayAfter_18 (1 : Int32) (by decide) ?_
      refine g_iand dX4_dayAfter_19 ?_
      refine g_iconst dX4_dayAfter_20 (1 : Int32) (by decide) ?_
      refine g_icmp_ne 49 dX4_dayAfter_21 (by decide) (fun h2 => ?_) (fun h2 => ?_)
      · have hQ := qn (P := gqI Q v) h2 hQ
        have hp := hp.2 h2
        exact w_X4_dayAfter_49 b hb hd (fun x1 x2 x3 x4 v => f_X4_dayAfter_5 b  n x1 x2 x3 x4 v) (fun x1 x2 x3 x4 v => p_X4_dayAfter_5 b   n x1 x2 x3 x4 v) ih x1 x2 x3 x4 v hp hQ
      · have hQ := qp (P := gqI Q v) h2 hQ
        have hp := hp.1 h2
        refine g_aload_n 0 dX4_dayAfter_24 rfl ?_
        refine r_get (.ref (gX E + (b + 46))) f_X4_9_X4 rfl (kb_45 hb) (lt_b hb (by decide)) dX4_dayAfter_25 (fun _ => rfl) ?_
        refine g_iload 4 dX4_dayAfter_28 rfl ?_
        obtain ⟨h3, hp⟩ := hp
        refine g_iald (kb_46 hb) (lt_b hb (by decide)) h3 dX4_dayAfter_30 ?_
        refine g_iload_n 2 dX4_dayAfter_31 rfl ?_
        refine g_icmp_gt 49 dX4_dayAfter_32 (by decide) (fun h4 => ?_) (fun h4 => ?_)
        · have hQ := qp (P := gqI Q v) h4 hQ
          have hp := hp.1 h4
          exact w_X4_dayAfter_49 b hb hd (fun x1 x2 x3 x4 v => f_X4_dayAfter_5 b  n x1 x2 x3 x4 v) (fun x1 x2 x3 x4 v => p_X4_dayAfter_5 b   n x1 x2 x3 x4 v) ih x1 x2 x3 x4 v hp hQ
        · have hQ := qn (P := gqI Q v) h4 hQ
          have hp := hp.2 h4
          refine g_iload_n 3 dX4_dayAfter_35 rfl ?_
          refine g_aload_n 0 dX4_dayAfter_36 rfl ?_
          refine r_get (.ref (gX E + (b + 47))) f_X4_15_X4 rfl (kb_45 hb) (lt_b hb (by decide)) dX4_dayAfter_37 (fun _ => rfl) ?_
          refine g_iload 4 dX4_dayAfter_40 rfl ?_
          obtain ⟨h5, hp⟩ := hp
          refine g_iald (kb_47 hb) (lt_b hb (by decide)) h5 dX4_dayAfter_42 ?_
          refine g_iconst dX4_dayAfter_43 (1 : Int32) (by decide) ?_
          refine g_iadd dX4_dayAfter_44 ?_
          refine r_mmax mw_X4_66 rfl (Nat.le_of_ble_eq_true rfl) (by omega) dX4_dayAfter_45 ?_
          refine g_istore_n [(3, .int ((if x3 < ((v.1 (b + 47) x4.toNatClampNeg) + (1 : Int32)) then ((v.1 (b + 47) x4.toNatClampNeg) + (1 : Int32)) else x3))), (0, .ref (gX E + (b + 45))), (1, .int x1), (2, .int x2), (4, .int x4)] dX4_dayAfter_48 rfl (by decide) rfl ?_
          refine g_lv (lv' := [(0, .ref (gX E + (b + 45))), (1, .int x1), (2, .int x2), (3, .int ((if x3 < ((v.1 (b + 47) x4.toNatClampNeg) + (1 : Int32)) then ((v.1 (b + 47) x4.toNatClampNeg) + (1 : Int32)) else x3))), (4, .int x4)]) [1, 2, 3, 0, 4] rfl ?_
          exact w_X4_dayAfter_49 b hb hd (fun x1 x2 x3 x4 v => f_X4_dayAfter_5 b  n x1 x2 x3 x4 v) (fun x1 x2 x3 x4 v => p_X4_dayAfter_5 b   n x1 x2 x3 x4 v) ih x1 x2 (if x3 < ((v.1 (b + 47) x4.toNatClampNeg) + (1 : Int32)) then ((v.1 (b + 47) x4.toNatClampNeg) + (1 : Int32)) else x3) x4 v hp hQ
def f_X4_dayAfter_0 (b : Nat) (x1 : Int32) (x2 : Int32) (v : gV) : Int32 := f_X4_dayAfter_5 b  5000 x1 x2 x2 (0 : Int32) v
def p_X4_dayAfter_0 (b : Nat) (x1 : Int32) (x2 : Int32) (v : gV) : Prop := p_X4_dayAfter_5 b   5000 x1 x2 x2 (0 : Int32) v
set_option maxHeartbeats 4000000 in
set_option maxRecDepth 100000 in
theorem w_X4_dayAfter_0 {E : gE} {d : Nat} {Q : gO → gS → Prop} (b : Nat) (hb : isBk b) (hd : 1 ≤ d) (x1 : Int32) (x2 : Int32) (v : gV) (hp : p_X4_dayAfter_0 b   x1 x2 v) (hQ : gqI Q v (f_X4_dayAfter_0 b  x1 x2 v)) : gG E m_X4_dayAfter d Q 0 0 (rS v) 0 [(0, .ref (gX E + (b + 45))), (1, .int x1), (2, .int x2)] [] := by
  refine g_iload_n 2 dX4_dayAfter_0 rfl ?_
  refine g_istore_n [(3, .int x2), (0, .ref (gX E + (b + 45))), (1, .int x1), (2, .int x2)] dX4_dayAfter_1 rfl (by decide) rfl ?_
  refine g_iconst dX4_dayAfter_2 (0 : Int32) (by decide) ?_
  refine g_istore [(4, .int ((0 : Int32))), (3, .int x2), (0, .ref (gX E + (b + 45))), (1, .int x1), (2, .int x2)] dX4_dayAfter_3 (by decide) rfl ?_
  refine g_lv (lv' := [(0, .ref (gX E + (b + 45))), (1, .int x1), (2, .int x2), (3, .int x2), (4, .int ((0 : Int32)))]) [2, 3, 4, 1, 0] rfl ?_
  exact w_X4_dayAfter_5 b hb hd    5000 x1 x2 x2 (0 : Int32) v hp hQ
def f_X4_dayAfter (b : Nat) (x1 : Int32) (x2 : Int32) (v : gV) : Int32 := f_X4_dayAfter_0 b x1 x2 v
def p_X4_dayAfter (b : Nat) (x1 : Int32) (x2 : Int32) (v : gV) : Prop := p_X4_dayAfter_0 b x1 x2 v
theorem c_X4_dayAfter {E : gE} {d : Nat} (b : Nat) (hb : isBk b) (hd : 1 ≤ d) (x1 : Int32) (x2 : Int32) (v : gV) (hp : p_X4_dayAfter b x1 x2 v) : CT E m_X4_dayAfter d 0 0 [.ref (gX E + (b + 45)), .int x1, .int x2] (rS v) (Cq (.inl (some (.int (f_X4_dayAfter b x1 x2 v)))) v) := CT.of ok_X4_dayAfter rfl (Nat.le_of_ble_eq_true rfl) (w_X4_dayAfter_0 b hb hd x1 x2 v hp ⟨rfl, rfl⟩)
def f_X5_isActiveAt_15 (b : Nat) (s0 : Int32) (v : gV) : Int32 := s0
def p_X5_isActiveAt_15 (b : Nat) (s0 : Int32) (v : gV) : Prop := (narrow .boolean (.int s0) = .int s0) ∧ (True)
set_option maxHeartbeats 4000000 in
set_option maxRecDepth 100000 in
theorem w_X5_isActiveAt_15 {E : gE} {d : Nat} {Q : gO → gS → Prop} (b : Nat) (hb : isBk b) (hd : 0 ≤ d) (s0 : Int32) (v : gV) (hp : p_X5_isActiveAt_15 b   s0 v) (hQ : gqI Q v (f_X5_isActiveAt_15 b  s0 v)) : gG E m_X5_isActiveAt d Q 0 0 (rS v) 15 [] [.int s0] := by
  obtain ⟨h3, hp⟩ := hp
  exact g_zret rfl h3 dX5_isActiveAt_15 hQ
def f_X5_isActiveAt_0 (b : Nat) (x1 : Int32) (x2 : Int32) (v : gV) : Int32 := if (v.1 (b + 6) x1.toNatClampNeg) ≤ x2 then (f_X5_isActiveAt_15 b  (0 : Int32) v) else (f_X5_isActiveAt_15 b  (1 : Int32) v)
def p_X5_isActiveAt_0 (b : Nat) (x1 : Int32) (x2 : Int32) (v : gV) : Prop := (vp_in x1 8) ∧ ((((v.1 (b + 6) x1.toNatClampNeg) ≤ x2) → (p_X5_isActiveAt_15 b   (0 : Int32) v)) ∧ (¬ ((v.1 (b + 6) x1.toNatClampNeg) ≤ x2) → (p_X5_isActiveAt_15 b   (1 : Int32) v)))
set_option maxHeartbeats 4000000 in
set_option maxRecDepth 100000 in
theorem w_X5_isActiveAt_0 {E : gE} {d : Nat} {Q : gO → gS → Prop} (b : Nat) (hb : isBk b) (hd : 0 ≤ d) (x1 : Int32) (x2 : Int32) (v : gV) (hp : p_X5_isActiveAt_0 b   x1 x2 v) (hQ : gqI Q v (f_X5_isActiveAt_0 b  x1 x2 v)) : gG E m_X5_isActiveAt d Q 0 0 (rS v) 0 [(0, .ref (gX E + (b + 1))), (1, .int x1), (2, .int x2)] [] := by
  refine g_iload_n 2 dX5_isActiveAt_0 rfl ?_
  refine g_aload_n 0 dX5_isActiveAt_1 rfl ?_
  refine r_get (.ref (gX E + (b + 6))) f_X5_21_X5 rfl (kb_1 hb) (lt_b hb (by decide)) dX5_isActiveAt_2 (fun _ => rfl) ?_
  refine g_iload_n 1 dX5_isActiveAt_5 rfl ?_
  obtain ⟨h1, hp⟩ := hp
  refine g_iald (kb_6 hb) (lt_b hb (by decide)) h1 dX5_isActiveAt_6 ?_
  refine g_icmp_ge 14 dX5_isActiveAt_7 (by decide) (fun h2 => ?_) (fun h2 => ?_)
  · have hQ := qp (P := gqI Q v) h2 hQ
    have hp := hp.1 h2
    refine g_iconst dX5_isActiveAt_14 (0 : Int32) (by decide) ?_
    refine g_lv (lv' := []) [] rfl ?_
    exact w_X5_isActiveAt_15 b hb hd    (0 : Int32) v hp hQ
  · have hQ := qn (P := gqI Q v) h2 hQ
    have hp := hp.2 h2
    refine g_iconst dX5_isActiveAt_10 (1 : Int32) (by decide) ?_
    refine g_goto 15 dX5_isActiveAt_11 (by decide) ?_
    refine g_lv (lv' := []) [] rfl ?_
    exact w_X5_isActiveAt_15 b hb hd    (1 : Int32) v hp hQ
def f_X5_isActiveAt (b : Nat) (x1 : Int32) (x2 : Int32) (v : gV) : Int32 := f_X5_isActiveAt_0 b x1 x2 v
def p_X5_isActiveAt (b : Nat) (x1 : Int32) (x2 : Int32) (v : gV) : Prop := p_X5_isActiveAt_0 b x1 x2 v
theorem c_X5_isActiveAt {E : gE} {d : Nat} (b : Nat) (hb : isBk b) (hd : 0 ≤ d) (x1 : Int32) (x2 : Int32) (v : gV) (hp : p_X5_isActiveAt b x1 x2 v) : CT E m_X5_isActiveAt d 0 0 [.ref (gX E + (b + 1)), .int x1, .int x2] (rS v) (Cq (.inl (some (.int (f_X5_isActiveAt b x1 x2 v)))) v) := CT.of ok_X5_isActiveAt rfl (Nat.le_of_ble_eq_true rfl) (w_X5_isActiveAt_0 b hb hd x1 x2 v hp ⟨rfl, rfl⟩)
