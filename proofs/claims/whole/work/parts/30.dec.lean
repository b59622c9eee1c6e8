def f_J7_fill_d0a16_16 (j0 : Nat) (N0 : Nat) (K6 : Int64 → Int32 → Int32 → gV → gV)  (x1 : Int64) (x3 : Int32) (x4 : Int32) (v : gV) : gV := K6 x1 (x3 + 1) x4 v
def p_J7_fill_d0a16_16 (j0 : Nat) (N0 : Nat) (K6 : Int64 → Int32 → Int32 → gV → gV)  (PK6 : Int64 → Int32 → Int32 → gV → Prop)  (x1 : Int64) (x3 : Int32) (x4 : Int32) (v : gV) : Prop := PK6 x1 (x3 + 1) x4 v
set_option maxHeartbeats 4000000 in
set_option maxRecDepth 100000 in
theorem w_J7_fill_d0a16_16 {E : gE} {d : Nat} {Q : gO → gS → Prop} (j0 : Nat) (N0 : Nat) (hN0 : N0 < 65536) (hk0 : kd j0 = (3, N0)) (hj0 : j0 < 572) (hd : 0 ≤ d) (K6 : Int64 → Int32 → Int32 → gV → gV)  (PK6 : Int64 → Int32 → Int32 → gV → Prop)  (hK6 : ∀ (x1 : Int64) (x3 : Int32) (x4 : Int32) (v : gV), PK6 x1 x3 x4 v → gqV Q (K6 x1 x3 x4 v) → gG E m_J7_fill_d0a16 d Q 0 0 (rS v) 6 [(0, .ref (gX E + j0)), (1, .long x1), (3, .int x3), (4, .int x4)] [])  (x1 : Int64) (x3 : Int32) (x4 : Int32) (v : gV) (hp : p_J7_fill_d0a16_16 j0 N0 K6 PK6 x1 x3 x4 v) (hQ : gqV Q (f_J7_fill_d0a16_16 j0 N0 K6 x1 x3 x4 v)) : gG E m_J7_fill_d0a16 d Q 0 0 (rS v) 16 [(0, .ref (gX E + j0)), (1, .long x1), (3, .int x3), (4, .int x4)] [] := by
  refine g_iinc 2 (x3 + 1) [(3, .int (x3 + 1)), (0, .ref (gX E + j0)), (1, .long x1), (4, .int x4)] dJ7_fill_d0a16_16 rfl rfl (by decide) rfl ?_
  refine g_goto 6 dJ7_fill_d0a16_19 (by decide) ?_
  refine g_lv (lv' := [(0, .ref (gX E + j0)), (1, .long x1), (3, .int (x3 + 1)), (4, .int x4)]) [1, 2, 0, 3] rfl ?_
  exact hK6 x1 (x3 + 1) x4 v hp hQ
def f_J7_fill_d0a16_6 (j0 : Nat) (N0 : Nat) : Nat → Int64 → Int32 → Int32 → gV → gV
  | 0, _, _, _, v => v
  | n + 1, x1, x3, x4, v => if x4 ≤ x3 then v else (f_J7_fill_d0a16_16 j0 N0 (fun x1 x3 x4 v => f_J7_fill_d0a16_6 j0 N0  n x1 x3 x4 v) x1 x3 x4 (vL v j0 x3.toNatClampNeg x1))
def p_J7_fill_d0a16_6 (j0 : Nat) (N0 : Nat) : Nat → Int64 → Int32 → Int32 → gV → Prop
  | 0, _, _, _, _ => False
  | n + 1, x1, x3, x4, v => ((x4 ≤ x3) → (True)) ∧ (¬ (x4 ≤ x3) → ((vp_in x3 N0) ∧ (p_J7_fill_d0a16_16 j0 N0 (fun x1 x3 x4 v => f_J7_fill_d0a16_6 j0 N0  n x1 x3 x4 v) (fun x1 x3 x4 v => p_J7_fill_d0a16_6 j0 N0   n x1 x3 x4 v) x1 x3 x4 (vL v j0 x3.toNatClampNeg x1))))
set_option maxHeartbeats 4000000 in
set_option maxRecDepth 100000 in
theorem w_J7_fill_d0a16_6 {E : gE} {d : Nat} {Q : gO → gS → Prop} (j0 : Nat) (N0 : Nat) (hN0 : N0 < 65536) (hk0 : kd j0 = (3, N0)) (hj0 : j0 < 572) (hd : 0 ≤ d) : ∀ (n : Nat) (x1 : Int64) (x3 : Int32) (x4 : Int32) (v : gV), p_J7_fill_d0a16_6 j0 N0   n x1 x3 x4 v → gqV Q (f_J7_fill_d0a16_6 j0 N0  n x1 x3 x4 v) → gG E m_J7_fill_d0a16 d Q 0 0 (rS v) 6 [(0, .ref (gX E + j0)), (1, .long x1), (3, .int x3), (4, .int x4)] [] := by
  intro n
  induction n with
  | zero => intro x1 x3 x4 v hp; exact hp.elim
  | succ n ih =>
    intro x1 x3 x4 v hp hQ
    refine g_iload_n 2 dJ7_fill_d0a16_6 rfl ?_
    refine g_iload 3 dJ7_fill_d0a16_7 rfl ?_
    refine g_icmp_ge 22 dJ7_fill_d0a16_9 (by decide) (fun h1 => ?_) (fun h1 => ?_)
    · have hQ := qp (P := gqV Q) h1 hQ
      have hp := hp.1 h1
      exact g_vret rfl dJ7_fill_d0a16_22 hQ
    · have hQ := qn (P := gqV Q) h1 hQ
      have hp := hp.2 h1
      refine g_aload_n 0 dJ7_fill_d0a16_12 rfl ?_
      refine g_iload_n 2 dJ7_fill_d0a16_13 rfl ?_
      refine g_lload_n 1 dJ7_fill_d0a16_14 rfl ?_
      obtain ⟨h2, hp⟩ := hp
      refine r_last hk0 hj0 h2 dJ7_fill_d0a16_15 ?_
      exact w_J7_fill_d0a16_16 j0 N0 hN0 hk0 hj0 hd (fun x1 x3 x4 v => f_J7_fill_d0a16_6 j0 N0  n x1 x3 x4 v) (fun x1 x3 x4 v => p_J7_fill_d0a16_6 j0 N0   n x1 x3 x4 v) ih x1 x3 x4 (vL v j0 x3.toNatClampNeg x1) hp hQ
def f_J7_fill_d0a16_0 (j0 : Nat) (N0 : Nat) (x1 : Int64) (v : gV) : gV := f_J7_fill_d0a16_6 j0 N0  5000 x1 (0 : Int32) (nI N0) v
def p_J7_fill_d0a16_0 (j0 : Nat) (N0 : Nat) (x1 : Int64) (v : gV) : Prop := p_J7_fill_d0a16_6 j0 N0   5000 x1 (0 : Int32) (nI N0) v
set_option maxHeartbeats 4000000 in
set_option maxRecDepth 100000 in
theorem w_J7_fill_d0a16_0 {E : gE} {d : Nat} {Q : gO → gS → Prop} (j0 : Nat) (N0 : Nat) (hN0 : N0 < 65536) (hk0 : kd j0 = (3, N0)) (hj0 : j0 < 572) (hd : 0 ≤ d) (x1 : Int64) (v : gV) (hp : p_J7_fill_d0a16_0 j0 N0   x1 v) (hQ : gqV Q (f_J7_fill_d0a16_0 j0 N0  x1 v)) : gG E m_J7_fill_d0a16 d Q 0 0 (rS v) 0 [(0, .ref (gX E + j0)), (1, .long x1)] [] := by
  refine g_iconst dJ7_fill_d0a16_0 (0 : Int32) (by decide) ?_
  refine g_istore_n [(3, .int ((0 : Int32))), (0, .ref (gX E + j0)), (1, .long x1)] dJ7_fill_d0a16_1 rfl (by decide) rfl ?_
  refine g_aload_n 1 dJ7_fill_d0a16_2 rfl ?_
  refine g_alen (nI N0) hk0 (by decide) hj0 rfl dJ7_fill_d0a16_3 ?_
  refine g_istore [(4, .int (nI N0)), (3, .int ((0 : Int32))), (0, .ref (gX E + j0)), (1, .long x1)] dJ7_fill_d0a16_4 (by decide) rfl ?_
  refine g_lv (lv' := [(0, .ref (gX E + j0)), (1, .long x1), (3, .int ((0 : Int32))), (4, .int (nI N0))]) [2, 3, 1, 0] rfl ?_
  exact w_J7_fill_d0a16_6 j0 N0 hN0 hk0 hj0 hd    5000 x1 (0 : Int32) (nI N0) v hp hQ
def f_J7_fill_d0a16 (j0 : Nat) (N0 : Nat) (x1 : Int64) (v : gV) : gV := f_J7_fill_d0a16_0 j0 N0 x1 v
def p_J7_fill_d0a16 (j0 : Nat) (N0 : Nat) (x1 : Int64) (v : gV) : Prop := p_J7_fill_d0a16_0 j0 N0 x1 v
theorem c_J7_fill_d0a16 {E : gE} {d : Nat} (j0 : Nat) (N0 : Nat) (hN0 : N0 < 65536) (hk0 : kd j0 = (3, N0)) (hj0 : j0 < 572) (hd : 0 ≤ d) (x1 : Int64) (v : gV) (hp : p_J7_fill_d0a16 j0 N0 x1 v) : CT E m_J7_fill_d0a16 d 0 0 [.ref (gX E + j0), .long x1] (rS v) (Cq (.inl none) (f_J7_fill_d0a16 j0 N0 x1 v)) := CT.of ok_J7_fill_d0a16 rfl (Nat.le_of_ble_eq_true rfl) (w_J7_fill_d0a16_0 j0 N0 hN0 hk0 hj0 hd x1 v hp ⟨rfl, rfl⟩)
def f_X1_deductible_37  (s0 : Int32) (v : gV) : Int32 := s0
def p_X1_deductible_37  (s0 : Int32) (v : gV) : Prop := True
set_option maxHeartbeats 4000000 in
set_option maxRecDepth 100000 in
theorem w_X1_deductible_37 {E : gE} {d : Nat} {Q : gO → gS → Prop}   (hd : 0 ≤ d) (s0 : Int32) (v : gV) (hp : p_X1_deductible_37   s0 v) (hQ : gqI Q v (f_X1_deductible_37  s0 v)) : gG E m_X1_deductible d Q 0 0 (rS v) 37 [] [.int s0] := by
  exact g_iret rfl dX1_deductible_37 hQ
def f_X1_deductible_0  (x0 : Int32) (x1 : Int32) (v : gV) : Int32 := if x0 = (103 : Int32) then ((2 : Int32)) else (if x0 = (119 : Int32) then ((x1 + (9 : Int32)) / (10 : Int32)) else (if x0 = (102 : Int32) then (f_X1_deductible_37  ((x1 / (4 : Int32)) + (1 : Int32)) v) else (f_X1_deductible_37  (0 : Int32) v)))
def p_X1_deductible_0  (x0 : Int32) (x1 : Int32) (v : gV) : Prop := ((x0 = (103 : Int32)) → (True)) ∧ (¬ (x0 = (103 : Int32)) → (((x0 = (119 : Int32)) → (True)) ∧ (¬ (x0 = (119 : Int32)) → (((x0 = (102 : Int32)) → (p_X1_deductible_37   ((x1 / (4 : Int32)) + (1 : Int32)) v)) ∧ (¬ (x0 = (102 : Int32)) → (p_X1_deductible_37   (0 : Int32) v))))))
set_option maxHeartbeats 4000000 in
set_option maxRecDepth 100000 in
theorem w_X1_deductible_0 {E : gE} {d : Nat} {Q : gO → gS → Prop}   (hd : 0 ≤ d) (x0 : Int32) (x1 : Int32) (v : gV) (hp : p_X1_deductible_0   x0 x1 v) (hQ : gqI Q v (f_X1_deductible_0  x0 x1 v)) : gG E m_X1_deductible d Q 0 0 (rS v) 0 [(0, .int x0), (1, .int x1)] [] := by
  refine g_iload_n 0 dX1_deductible_0 rfl ?_
  refine g_bipush dX1_deductible_1 (103 : Int32) (by decide) ?_
  refine g_icmp_ne 8 dX1_deductible_3 (by decide) (fun h1 => ?_) (fun h1 => ?_)
  · have hQ := qn (P := gqI Q v) h1 hQ
    have hp := hp.2 h1
    refine g_iload_n 0 dX1_deductible_8 rfl ?_
    refine g_bipush dX1_deductible_9 (119 : Int32) (by decide) ?_
    refine g_icmp_ne 22 dX1_deductible_11 (by decide) (fun h2 => ?_) (fun h2 => ?_)
    · have hQ := qn (P := gqI Q v) h2 hQ
      have hp := hp.2 h2
      refine g_iload_n 0 dX1_deductible_22 rfl ?_
      refine g_bipush dX1_deductible_23 (102 : Int32) (by decide) ?_
      refine g_icmp_ne 36 dX1_deductible_25 (by decide) (fun h3 => ?_) (fun h3 => ?_)
      · have hQ := qn (P := gqI Q v) h3 hQ
        have hp := hp.2 h3
        refine g_iconst dX1_deductible_36 (0 : Int32) (by decide) ?_
        refine g_lv (lv' := []) [] rfl ?_
        exact w_X1_deductible_37  hd    (0 : Int32) v hp hQ
      · have hQ := qp (P := gqI Q v) h3 hQ
        have hp := hp.1 h3
        refine g_iload_n 1 dX1_deductible_28 rfl ?_
        refine g_iconst dX1_deductible_29 (4 : Int32) (by decide) ?_
        refine g_idiv dX1_deductible_30 (by decide) ?_
        refine g_iconst dX1_deductible_31 (1 : Int32) (by decide) ?_
        refine g_iadd dX1_deductible_32 ?_
        refine g_goto 37 dX1_deductible_33 (by decide) ?_
        refine g_lv (lv' := []) [] rfl ?_
        exact w_X1_deductible_37  hd    ((x1 / (4 : Int32)) + (1 : Int32)) v hp hQ
    · have hQ := qp (P := gqI Q v) h2 hQ
      have hp := hp.1 h2
      refine g_iload_n 1 dX1_deductible_14 rfl ?_
      refine g_bipush dX1_deductible_15 (9 : Int32) (by decide) ?_
      refine g_iadd dX1_deductible_17 ?_
      refine g_bipush dX1_deductible_18 (10 : Int32) (by decide) ?_
      refine g_idiv dX1_deductible_20 (by decide) ?_
      exact g_iret rfl dX1_deductible_21 hQ
  · have hQ := qp (P := gqI Q v) h1 hQ
    have hp := hp.1 h1
    refine g_iconst dX1_deductible_6 (2 : Int32) (by decide) ?_
    exact g_iret rfl dX1_deductible_7 hQ
def f_X1_deductible  (x0 : Int32) (x1 : Int32) (v : gV) : Int32 := f_X1_deductible_0 x0 x1 v
def p_X1_deductible  (x0 : Int32) (x1 : Int32) (v : gV) : Prop := p_X1_deductible_0 x0 x1 v
theorem c_X1_deductible {E : gE} {d : Nat}   (hd : 0 ≤ d) (x0 : Int32) (x1 : Int32) (v : gV) (hp : p_X1_deductible x0 x1 v) : CT E m_X1_deductible d 0 0 [.int x0, .int x1] (rS v) (Cq (.inl (some (.int (f_X1_deductible x0 x1 v)))) v) := CT.of ok_X1_deductible rfl (Nat.le_of_ble_eq_true rfl) (w_X1_deductible_0  hd x0 x1 v hp ⟨rfl, rfl⟩)
def f_X1_latestPeriod_0 (b : Nat)  (v : gV) : Int32 := (if (5 : Int32) < ((v.1 b 5) / (10 : Int32)) then (5 : Int32) else ((v.1 b 5) / (10 : Int32)))
def p_X1_latestPeriod_0 (b : Nat)  (v : gV) : Prop := True
set_option maxHeartbeats 4000000 in
set_option maxRecDepth 100000 in
theorem w_X1_latestPeriod_0 {E : gE} {d : Nat} {Q : gO → gS → Prop} (b : Nat) (hb : isBk b) (hd : 1 ≤ d)  (v : gV) (hp : p_X1_latestPeriod_0 b    v) (hQ : gqI Q v (f_X1_latestPeriod_0 b   v)) : gG E m_X1_latestPeriod d Q 0 0 (rS v) 0 [(0, .ref (gX E + b))] [] := by
  refine g_aload_n 0 dX1_latestPeriod_0 rfl ?_
  refine r_get (.int (v.1 b 5)) f_X1_62_X1 rfl (kbz hb) (lt_b0 hb) dX1_latestPeriod_1 (fun _ => rfl) ?_
  refine g_bipush dX1_latestPeriod_4 (10 : Int32) (by decide) ?_
  refine g_idiv dX1_latestPeriod_6 (by decide) ?_
  refine g_iconst dX1_latestPeriod_7 (5 : Int32) (by decide) ?_
  refine r_mmin mw_X1_167 rfl (Nat.le_of_ble_eq_true rfl) (by omega) dX1_latestPeriod_8 ?_
  exact g_iret rfl dX1_latestPeriod_11 hQ
def f_X1_latestPeriod (b : Nat)  (v : gV) : Int32 := f_X1_latestPeriod_0 b  v
def p_X1_latestPeriod (b : Nat)  (v : gV) : Prop := p_X1_latestPeriod_0 b  v
theorem c_X1_latestPeriod {E : gE} {d : Nat} (b : Nat) (hb : isBk b) (hd : 1 ≤ d)  (v : gV) (hp : p_X1_latestPeriod b  v) : CT E m_X1_latestPeriod d 0 0 [.ref (gX E + b)] (rS v) (Cq (.inl (some (.int (f_X1_latestPeriod b  v)))) v) := CT.of ok_X1_latestPeriod rfl (Nat.le_of_ble_eq_true rfl) (w_X1_latestPeriod_0 b hb hd  v hp ⟨rfl, rfl⟩)
def f_X1_isBalanced_36 (b : Nat) (s0 : Int32) (v : gV) : Int32 := s0
def p_X1_isBalanced_36 (b : Nat) (s0 : Int32) (v : gV) : Prop := (s0 = 0 ∨ s0 = 1) ∧ (True)
set_option maxHeartbeats 4000000 in
set_option maxRecDepth 100000 in
theorem w_X1_isBalanced_36 {E : gE} {d : Nat} {Q : gO → gS → Prop} (b : Nat) (hb : isBk b) (hd : 0 ≤ d) (s0 : Int32) (v : gV) (hp : p_X1_isBalanced_36 b   s0 v) (hQ : gqI Q v (f_X1_isBalanced_36 b  s0 v)) : gG E m_X1_isBalanced d Q 0 0 (rS v) 36 [] [.int s0] := by
  obtain ⟨h2, hp⟩ := hp
  exact g_zret rfl (nz h2) dX1_isBalanced_36 hQ
def f_X1_isBalanced_0 (b : Nat)  (v : gV) : Int32 := if (v.1 b 6) = (((((v.1 b 7) - (v.1 b 8)) - (v.1 b 9)) - (v.1 b 10)) + (v.1 b 11)) then (f_X1_isBalanced_36 b  (1 : Int32) v) else (f_X1_isBalanced_36 b  (0 : Int32) v)
def p_X1_isBalanced_0 (b : Nat)  (v : gV) : Prop := (((v.1 b 6) = (((((v.1 b 7) - (v.1 b 8)) - (v.1 b 9)) - (v.1 b 10)) + (v.1 b 11))) → (p_X1_isBalanced_36 b   (1 : Int32) v)) ∧ (¬ ((v.1 b 6) = (((((v.1 b 7) - (v.1 b 8)) - (v.1 b 9)) - (v.1 b 10)) + (v.1 b 11))) → (p_X1_isBalanced_36 b   (0 : Int32) v))
set_option maxHeartbeats 4000000 in
set_option maxRecDepth 100000 in
theorem w_X1_isBalanced_0 {E : gE} {d : Nat} {Q : gO → gS → Prop} (b : Nat) (hb : isBk b) (hd : 0 ≤ d)  (v : gV) (hp : p_X1_isBalanced_0 b    v) (hQ : gqI Q v (f_X1_isBalanced_0 b   v)) : gG E m_X1_isBalanced d Q 0 0 (rS v) 0 [(0, .ref (gX E + b))] [] := by
  refine g_aload_n 0 dX1_isBalanced_0 rfl ?_
  refine r_get (.int (v.1 b 6)) f_X1_66_X1 rfl (kbz hb) (lt_b0 hb) dX1_isBalanced_1 (fun _ => rfl) ?_
  refine g_aload_n 0 dX1_isBalanced_4 rfl ?_
  refine r_get (.int (v.1 b 7)) f_X1_69_X1 rfl (kbz hb) (lt_b0 hb) dX1_isBalanced_5 (fun _ => rfl) ?_
  refine g_aload_n 0 dX1_isBalanced_8 rfl ?_
  refine r_get (.int (v.1 b 8)) f_X1_72_X1 rfl (kbz hb) (lt_b0 hb) dX1_isBalanced_9 (fun _ => rfl) ?_
  refine g_isub dX1_isBalanced_12 ?_
  refine g_aload_n 0 dX1_isBalanced_13 rfl ?_
  refine r_get (.int (v.1 b 9)) f_X1_75_X1 rfl (kbz hb) (lt_b0 hb) dX1_isBalanced_14 (fun _ => rfl) ?_
  refine g_isub dX1_isBalanced_17 ?_
  refine g_aload_n 0 dX1_isBalanced_18 rfl ?_
  refine r_get (.int (v.1 b 10)) f_X1_78_X1 rfl (kbz hb) (lt_b0 hb) dX1_isBalanced_19 (fun _ => rfl) ?_
  refine g_isub dX1_isBalanced_22 ?_
  refine g_aload_n 0 dX1_isBalanced_23 rfl ?_
  refine r_get (.int (v.1 b 11)) f_X1_81_X1 rfl (kbz hb) (lt_b0 hb) dX1_isBalanced_24 (fun _ => rfl) ?_
  refine g_iadd dX1_isBalanced_27 ?_
  refine g_icmp_ne 35 dX1_isBalanced_28 (by decide) (fun h1 => ?_) (fun h1 => ?_)
  · have hQ := qn (P := gqI Q v) h1 hQ
    have hp := hp.2 h1
    refine g_iconst dX1_isBalanced_35 (0 : Int32) (by decide) ?_
    refine g_lv (lv' := []) [] rfl ?_
    exact w_X1_isBalanced_36 b hb hd    (0 : Int32) v hp hQ
  · have hQ := qp (P := gqI Q v) h1 hQ
    have hp := hp.1 h1
    refine g_iconst dX1_isBalanced_31 (1 : Int32) (by decide) ?_
    refine g_goto 36 dX1_isBalanced_32 (by decide) ?_
    refine g_lv (lv' := []) [] rfl ?_
    exact w_X1_isBalanced_36 b hb hd    (1 : Int32) v hp hQ
def f_X1_isBalanced (b : Nat)  (v : gV) : Int32 := f_X1_isBalanced_0 b  v
def p_X1_isBalanced (b : Nat)  (v : gV) : Prop := p_X1_isBalanced_0 b  v
theorem c_X1_isBalanced {E : gE} {d : Nat} (b : Nat) (hb : isBk b) (hd : 0 ≤ d)  (v : gV) (hp : p_X1_isBalanced b  v) : CT E m_X1_isBalanced d 0 0 [.ref (gX E + b)] (rS v) (Cq (.inl (some (.int (f_X1_isBalanced b  v)))) v) := CT.of ok_X1_isBalanced rfl (Nat.le_of_ble_eq_true rfl) (w_X1_isBalanced_0 b hb hd  v hp ⟨rfl, rfl⟩)
def f_X2_unpaidAt_0 (b : Nat) (x1 : Int32) (v : gV) : Int32 := (v.1 (b + 14) x1.toNatClampNeg) - (v.1 (b + 15) x1.toNatClampNeg)
def p_X2_unpaidAt_0 (b : Nat) (x1 : Int32) (v : gV) : Prop := (vp_in x1 12) ∧ ((vp_in x1 12) ∧ (True))
set_option maxHeartbeats 4000000 in
set_option maxRecDepth 100000 in
theorem w_X2_unpaidAt_0 {E : gE} {d : Nat} {Q : gO → gS → Prop} (b : Nat) (hb : isBk b) (hd : 0 ≤ d) (x1 : Int32) (v : gV) (hp : p_X2_unpaidAt_0 b   x1 v) (hQ : gqI Q v (f_X2_unpaidAt_0 b  x1 v)) : gG E m_X2_unpaidAt d Q 0 0 (rS v) 0 [(0, .ref (gX E + (b + 10))), (1, .int x1)] [] := by
  refine g_aload_n 0 dX2_unpaidAt_0 rfl ?_
  refine r_get (.ref (gX E + (b + 14))) f_X2_19_X2 rfl (kb_10 hb) (lt_b hb (by decide)) dX2_unpaidAt_1 (fun _ => rfl) ?_
  refine g_iload_n 1 dX2_unpaidAt_4 rfl ?_
  obtain ⟨h1, hp⟩ := hp
  refine g_iald (kb_14 hb) (lt_b hb (by decide)) h1 dX2_unpaidAt_5 ?_
  refine g_aload_n 0 dX2_unpaidAt_6 rfl ?_
  refine r_get (.ref (gX E + (b + 15))) f_X2_22_X2 rfl (kb_10 hb) (lt_b hb (by decide)) dX2_unpaidAt_7 (fun _ => rfl) ?_
  refine g_iload_n 1 dX2_unpaidAt_10 rfl ?_
  obtain ⟨h2, hp⟩ := hp
  refine g_iald (kb_15 hb) (lt_b hb (by decide)) h2 dX2_unpaidAt_11 ?_
  refine g_isub dX2_unpaidAt_12 ?_
  exact g_iret rfl dX2_unpaidAt_13 hQ
def f_X2_unpaidAt (b : Nat) (x1 : Int32) (v : gV) : Int32 := f_X2_unpaidAt_0 b x1 v
def p_X2_unpaidAt (b : Nat) (x1 : Int32) (v : gV) : Prop := p_X2_unpaidAt_0 b x1 v
theorem c_X2_unpaidAt {E : gE} {d : Nat} (b : Nat) (hb : isBk b) (hd : 0 ≤ d) (x1 : Int32) (v : gV) (hp : p_X2_unpaidAt b x1 v) : CT E m_X2_unpaidAt d 0 0 [.ref (gX E + (b + 10)), .int x1] (rS v) (Cq (.inl (some (.int (f_X2_unpaidAt b x1 v)))) v) := CT.of ok_X2_unpaidAt rfl (Nat.le_of_ble_eq_true rfl) (w_X2_unpaidAt_0 b hb hd x1 v hp ⟨rfl, rfl⟩)
def f_X2_coinsOf_4 (b : Nat) : Nat → Int32 → Int32 → Int32 → gV → Int32
  | 0, _, _, _, v => 0
  | n + 1, x1, x2, x3, v => if (v.1 (b + 10) 1) ≤ x3 then x2 else (f_X2_coinsOf_4 b  n x1 (x2 + (v.1 (b + 17 + 1 + (x3).toNatClampNeg) x1.toNatClampNeg)) (x3 + 1) v)
def p_X2_coinsOf_4 (b : Nat) : Nat → Int32 → Int32 → Int32 → gV → Prop
  | 0, _, _, _, _ => False
  | n + 1, x1, x2, x3, v => (((v.1 (b + 10) 1) ≤ x3) → (True)) ∧ (¬ ((v.1 (b + 10) 1) ≤ x3) → ((vp_in x3 12) ∧ ((vp_in x1 4) ∧ (p_X2_coinsOf_4 b   n x1 (x2 + (v.1 (b + 17 + 1 + (x3).toNatClampNeg) x1.toNatClampNeg)) (x3 + 1) v))))
set_option maxHeartbeats 4000000 in
set_option maxRecDepth 100000 in
theorem w_X2_coinsOf_4 {E : gE} {d : Nat} {Q : gO → gS → Prop} (b : Nat) (hb : isBk b) (hd : 0 ≤ d) : ∀ (n : Nat) (x1 : Int32) (x2 : Int32) (x3 : Int32) (v : gV), p_X2_coinsOf_4 b   n x1 x2 x3 v → gqI Q v (f_X2_coinsOf_4 b  n x1 x2 x3 v) → gG E m_X2_coinsOf d Q 0 0 (rS v) 4 [(0, .ref (gX E + (b + 10))), (1, .int x1), (2, .int x2), (3, .int x3)] [] := by
  intro n
  induction n with
  | zero => intro x1 x2 x3 v hp; exact hp.elim
  | succ n ih =>
    intro x1 x2 x3 v hp hQ
    refine g_iload_n 3 dX2_coinsOf_4 rfl ?_
    refine g_aload_n 0 dX2_coinsOf_5 rfl ?_
    refine r_get (.int (v.1 (b + 10) 1)) f_X2_62_X2 rfl (kb_10 hb) (lt_b hb (by decide)) dX2_coinsOf_6 (fun _ => rfl) ?_
    refine g_icmp_ge 29 dX2_coinsOf_9 (by decide) (fun h1 => ?_) (fun h1 => ?_)
    · have hQ := qp (P := gqI Q v) h1 hQ
      have hp := hp.1 h1
      refine g_iload_n 2 dX2_coinsOf_29 rfl ?_
      exact g_iret rfl dX2_coinsOf_30 hQ
    · have hQ := qn (P := gqI Q v) h1 hQ
      have hp := hp.2 h1
      refine g_iload_n 2 dX2_coinsOf_12 rfl ?_
      refine g_aload_n 0 dX2_coinsOf_13 rfl ?_
      refine r_get (.ref (gX E + (b + 17))) f_X2_30_X2 rfl (kb_10 hb) (lt_b hb (by decide)) dX2_coinsOf_14 (fun _ => rfl) ?_
      refine g_iload_n 3 dX2_coinsOf_17 rfl ?_
      obtain ⟨h2, hp⟩ := hp
      refine r_aald (kb_17 hb) (lt_b hb (by decide)) h2 (by decide) dX2_coinsOf_18 ?_
      refine g_iload_n 1 dX2_coinsOf_19 rfl ?_
      obtain ⟨h3, hp⟩ := hp
      refine g_iald (kg_17 hb h2) (lg_17 hb h2) h3 dX2_coinsOf_20 ?_
      refine g_iadd dX2_coinsOf_21 ?_
      refine g_istore_n [(2, .int (x2 + (v.1 (b + 17 + 1 + (x3).toNatClampNeg) x1.toNatClampNeg))), (0, .ref (gX E + (b + 10))), (1, .int x1), (3, .int x3)] dX2_coinsOf_22 rfl (by decide) rfl ?_
      refine g_iinc 3 (x3 + 1) [(3, .int (x3 + 1)), (2, .int (x2 + (v.1 (b + 17 + 1 + (x3).toNatClampNeg) x1.toNatClampNeg))), (0, .ref (gX E + (b + 10))), (1, .int x1)] dX2_coinsOf_23 rfl rfl (by decide) rfl ?_
      refine g_goto 4 dX2_coinsOf_26 (by decide) ?_
      refine g_lv (lv' := [(0, .ref (gX E + (b + 10))), (1, .int x1), (2, .int (x2 + (v.1 (b + 17 + 1 + (x3).toNatClampNeg) x1.toNatClampNeg))), (3, .int (x3 + 1))]) [2, 3, 1, 0] rfl ?_
      exact ih x1 (x2 + (v.1 (b + 17 + 1 + (x3).toNatClampNeg) x1.toNatClampNeg)) (x3 + 1) v hp hQ
def f_X2_coinsOf_0 (b : Nat) (x1 : Int32) (v : gV) : Int32 := f_X2_coinsOf_4 b  5000 x1 (0 : Int32) (0 : Int32) v
def p_X2_coinsOf_0 (b : Nat) (x1 : Int32) (v : gV) : Prop := p_X2_coinsOf_4 b   5000 x1 (0 : Int32) (0 : Int32) v
set_option maxHeartbeats 4000000 in
set_option maxRecDepth 100000 in
theorem w_X2_coinsOf_0 {E : gE} {d : Nat} {Q : gO → gS → Prop} (b : Nat) (hb : isBk b) (hd : 0 ≤ d) (x1 : Int32) (v : gV) (hp : p_X2_coinsOf_0 b   x1 v) (hQ : gqI Q v (f_X2_coinsOf_0 b  x1 v)) : gG E m_X2_coinsOf d Q 0 0 (rS v) 0 [(0, .ref (gX E + (b + 10))), (1, .int x1)] [] := by
  refine g_iconst dX2_coinsOf_0 (0 : Int32) (by decide) ?_
  refine g_istore_n [(2, .int ((0 : Int32))), (0, .ref (gX E + (b + 10))), (1, .int x1)] dX2_coinsOf_1 rfl (by decide) rfl ?_
  refine g_iconst dX2_coinsOf_2 (0 : Int32) (by decide) ?_
  refine g_istore_n [(3, .int ((0 : Int32))), (2, .int ((0 : Int32))), (0, .ref (gX E + (b + 10))), (1, .int x1)] dX2_coinsOf_3 rfl (by decide) rfl ?_
  refine g_lv (lv' := [(0, .ref (gX E + (b + 10))), (1, .int x1), (2, .int ((0 : Int32))), (3, .int ((0 : Int32)))]) [2, 3, 1, 0] rfl ?_
  exact w_X2_coinsOf_4 b hb hd    5000 x1 (0 : Int32) (0 : Int32) v hp hQ
def f_X2_coinsOf (b : Nat) (x1 : Int32) (v : gV) : Int32 := f_X2_coinsOf_0 b x1 v
def p_X2_coinsOf (b : Nat) (x1 : Int32) (v : gV) : Prop := p_X2_coinsOf_0 b x1 v
theorem c_X2_coinsOf {E : gE} {d : Nat} (b : Nat) (hb : isBk b) (hd : 0 ≤ d) (x1 : Int32) (v : gV) (hp : p_X2_coinsOf b x1 v) : CT E m_X2_coinsOf d 0 0 [.ref (gX E + (b + 10)), .int x1] (rS v) (Cq (.inl (some (.int (f_X2_coinsOf b x1 v)))) v) := CT.of ok_X2_coinsOf rfl (Nat.le_of_ble_eq_true rfl) (w_X2_coinsOf_0 b hb hd x1 v hp ⟨rfl, rfl⟩)
def f_X2_isAhead_52 (b : Nat) (s0 : Int32) (v : gV) : Int32 := s0
def p_X2_isAhead_52 (b : Nat) (s0 : Int32) (v : gV) : Prop := (s0 = 0 ∨ s0 = 1) ∧ (True)
set_option maxHeartbeats 4000000 in
set_option maxRecDepth 100000 in
theorem w_X2_isAhead_52 {E : gE} {d : Nat} {Q : gO → gS → Prop} (b : Nat) (hb : isBk b) (hd : 1 ≤ d) (s0 : Int32) (v : gV) (hp : p_X2_isAhead_52 b   s0 v) (hQ : gqI Q v (f_X2_isAhead_52 b  s0 v)) : gG E m_X2_isAhead d Q 0 0 (rS v) 52 [] [.int s0] := by
  obtain ⟨h7, hp⟩ := hp
  exact g_zret rfl (nz h7) dX2_isAhead_52 hQ
def f_X2_isAhead_31 (b : Nat) (s0 : Int32) (v : gV) : Int32 := s0
def p_X2_isAhead_31 (b : Nat) (s0 : Int32) (v : gV) : Prop := (s0 = 0 ∨ s0 = 1) ∧ (True)
set_option maxHeartbeats 4000000 in
set_option maxRecDepth 100000 in
theorem w_X2_isAhead_31 {E : gE} {d : Nat} {Q : gO → gS → Prop} (b : Nat) (hb : isBk b) (hd : 1 ≤ d) (s0 : Int32) (v : gV) (hp : p_X2_isAhead_31 b   s0 v) (hQ : gqI Q v (f_X2_isAhead_31 b  s0 v)) : gG E m_X2_isAhead d Q 0 0 (rS v) 31 [] [.int s0] := by
  obtain ⟨h11, hp⟩ := hp
  exact g_zret rfl (nz h11) dX2_isAhead_31 hQ
def f_X2_isAhead_0 (b : Nat) (x1 : Int32) (x2 : Int32) (v : gV) : Int32 := if (f_X2_unpaidAt b x1 v) = (f_X2_unpaidAt b x2 v) then (if (v.1 (b + 11) x2.toNatClampNeg) ≤ (v.1 (b + 11) x1.toNatClampNeg) then (f_X2_isAhead_52 b  (0 : Int32) v) else (f_X2_isAhead_52 b  (1 : Int32) v)) else (if (f_X2_unpaidAt b x1 v) ≤ (f_X2_unpaidAt b x2 v) then (f_X2_isAhead_31 b  (0 : Int32) v) else (f_X2_isAhead_31 b  (1 : Int32) v))
def p_X2_isAhead_0 (b : Nat) (x1 : Int32) (x2 : Int32) (v : gV) : Prop := (p_X2_unpaidAt b x1 v) ∧ ((p_X2_unpaidAt b x2 v) ∧ ((((f_X2_unpaidAt b x1 v) = (f_X2_unpaidAt b x2 v)) → ((vp_in x1 12) ∧ ((vp_in x2 12) ∧ ((((v.1 (b + 11) x2.toNatClampNeg) ≤ (v.1 (b + 11) x1.toNatClampNeg)) → (p_X2_isAhead_52 b   (0 : Int32) v)) ∧ (¬ ((v.1 (b + 11) x2.toNatClampNeg) ≤ (v.1 (b + 11) x1.toNatClampNeg)) → (p_X2_isAhead_52 b   (1 : Int32) v)))))) ∧ (¬ ((f_X2_unpaidAt b x1 v) = (f_X2_unpaidAt b x2 v)) → ((p_X2_unpaidAt b x1 v) ∧ ((p_X2_unpaidAt b x2 v) ∧ ((((f_X2_unpaidAt b x1 v) ≤ (f_X2_unpaidAt b x2 v)) → (p_X2_isAhead_31 b   (0 : Int32) v)) ∧ (¬ ((f_X2_unpaidAt b x1 v) ≤ (f_X2_unpaidAt b x2 v)) → (p_X2_isAhead_31 b   (1 : Int32) v))))))))
set_option maxHeartbeats 4000000 in
set_option maxRecDepth 100000 in
theorem w_X2_isAhead_0 {E : gE} {d : Nat} {Q : gO → gS → Prop} (b : Nat) (hb : isBk b) (hd : 1 ≤ d) (x1 : Int32) (x2 : Int32) (v : gV) (hp : p_X2_isAhead_0 b   x1 x2 v) (hQ : gqI Q v (f_X2_isAhead_0 b  x1 x2 v)) : gG E m_X2_isAhead d Q 0 0 (rS v) 0 [(0, .ref (gX E + (b + 10))), (1, .int x1), (2, .int x2)] [] := by
  refine g_aload_n 0 dX2_isAhead_0 rfl ?_
  refine g_iload_n 1 dX2_isAhead_1 rfl ?_
  obtain ⟨h1, hp⟩ := hp
  refine g_callV (rest := []) s_X2_66_X2 rfl (c_X2_unpaidAt (E := E) (d := d - 1) b hb (by omega) x1 v h1) (kb_10 hb) (lt_b hb (by decide)) rfl rfl (Nat.le_of_ble_eq_true rfl) (by omega) (by decide) (by decide) dX2_isAhead_2 (adV ?_) axN
  refine g_aload_n 0 dX2_isAhead_5 rfl ?_
  refine g_iload_n 2 dX2_isAhead_6 rfl ?_
  obtain ⟨h2, hp⟩ := hp
  refine g_callV (rest := [.int ((f_X2_unpaidAt b x1 v))]) s_X2_66_X2 rfl (c_X2_unpaidAt (E := E) (d := d - 1) b hb (by omega) x2 v h2) (kb_10 hb) (lt_b hb (by decide)) rfl rfl (Nat.le_of_ble_eq_true rfl) (by omega) (by decide) (by decide) dX2_isAhead_7 (adV ?_) axN
  refine g_icmp_eq 32 dX2_isAhead_10 (by decide) (fun h3 => ?_) (fun h3 => ?_)
  · have hQ := qp (P := gqI Q v) h3 hQ
    have hp := hp.1 h3
    refine g_aload_n 0 dX2_isAhead_32 rfl ?_
    refine r_get (.ref (gX E + (b + 11))) f_X2_70_X2 rfl (kb_10 hb) (lt_b hb (by decide)) dX2_isAhead_33 (fun _ => rfl) ?_
    refine g_iload_n 1 dX2_isAhead_36 rfl ?_
    obtain ⟨h4, hp⟩ := hp
    refine g_iald (kb_11 hb) (lt_b hb (by decide)) h4 dX2_isAhead_37 ?_
    refine g_aload_n 0 dX2_isAhead_38 rfl ?_
    refine r_get (.ref (gX E + (b + 11))) f_X2_70_X2 rfl (kb_10 hb) (lt_b hb (by decide)) dX2_isAhead_39 (fun _ => rfl) ?_
    refine g_iload_n 2 dX2_isAhead_42 rfl ?_
    obtain ⟨h5, hp⟩ := hp
    refine g_iald (kb_11 hb) (lt_b hb (by decide)) h5 dX2_isAhead_43 ?_
    refine g_icmp_ge 51 dX2_isAhead_44 (by decide) (fun h6 => ?_) (fun h6 => ?_)
    · have hQ := qp (P := gqI Q v) h6 hQ
      have hp := hp.1 h6
      refine g_iconst dX2_isAhead_51 (0 : Int32) (by decide) ?_
      refine g_lv (lv' := []) [] rfl ?_
      exact w_X2_isAhead_52 b hb hd    (0 : Int32) v hp hQ
    · have hQ := qn (P := gqI Q v) h6 hQ
      have hp := hp.2 h6
      refine g_iconst dX2_isAhead_47 (1 : Int32) (by decide) ?_
      refine g_goto 52 dX2_isAhead_48 (by decide) ?_
      refine g_lv (lv' := []) [] rfl ?_
      exact w_X2_isAhead_52 b hb hd    (1 : Int32) v hp hQ
  · have hQ := qn (P := gqI Q v) h3 hQ
    have hp := hp.2 h3
    refine g_aload_n 0 dX2_isAhead_13 rfl ?_
    refine g_iload_n 1 dX2_isAhead_14 rfl ?_
    obtain ⟨h8, hp⟩ := hp
    refine g_callV (rest := []) s_X2_66_X2 rfl (c_X2_unpaidAt (E := E) (d := d - 1) b hb (by omega) x1 v h8) (kb_10 hb) (lt_b hb (by decide)) rfl rfl (Nat.le_of_ble_eq_true rfl) (by omega) (by decide) (by decide) dX2_isAhead_15 (adV ?_) axN
    refine g_aload_n 0 dX2_isAhead_18 rfl ?_
    refine g_iload_n 2 dX2_isAhead_19 rfl ?_
    obtain ⟨h9, hp⟩ := hp
    refine g_callV (rest := [.int ((f_X2_unpaidAt b x1 v))]) s_X2_66_X2 rfl (c_X2_unpaidAt (E := E) (d := d - 1) b hb (by omega) x2 v h9) (kb_10 hb) (lt_b hb (by decide)) rfl rfl (Nat.le_of_ble_eq_true rfl) (by omega) (by decide) (by decide) dX2_isAhead_20 (adV ?_) axN
    refine g_icmp_le 30 dX2_isAhead_23 (by decide) (fun h10 => ?_) (fun h10 => ?_)
    · have hQ := qp (P := gqI Q v) h10 hQ
      have hp := hp.1 h10
      refine g_iconst dX2_isAhead_30 (0 : Int32) (by decide) ?_
      refine g_lv (lv' := []) [] rfl ?_
      exact w_X2_isAhead_31 b hb hd    (0 : Int32) v hp hQ
    · have hQ := qn (P := gqI Q v) h10 hQ
      have hp := hp.2 h10
      refine g_iconst dX2_isAhead_26 (1 : Int32) (by decide) ?_
      refine g_goto 31 dX2_isAhead_27 (by decide) ?_
      refine g_lv (lv' := []) [] rfl ?_
      exact w_X2_isAhead_31 b hb hd    (1 : Int32) v hp hQ
def f_X2_isAhead (b : Nat) (x1 : Int32) (x2 : Int32) (v : gV) : Int32 := f_X2_isAhead_0 b x1 x2 v
def p_X2_isAhead (b : Nat) (x1 : Int32) (x2 : Int32) (v : gV) : Prop := p_X2_isAhead_0 b x1 x2 v
theorem c_X2_isAhead {E : gE} {d : Nat} (b : Nat) (hb : isBk b) (hd : 1 ≤ d) (x1 : Int32) (x2 : Int32) (v : gV) (hp : p_X2_isAhead b x1 x2 v) : CT E m_X2_isAhead d 0 0 [.ref (gX E + (b + 10)), .int x1, .int x2] (rS v) (Cq (.inl (some (.int (f_X2_isAhead b x1 x2 v)))) v) := CT.of ok_X2_isAhead rfl (Nat.le_of_ble_eq_true rfl) (w_X2_isAhead_0 b hb hd x1 x2 v hp ⟨rfl, rfl⟩)
def f_X3_forget_5   (v : gV) : gV := v
def p_X3_forget_5   (v : gV) : Prop := True
set_option maxHeartbeats 4000000 in
set_option maxRecDepth 100000 in
theorem w_X3_forget_5 {E : gE} {d : Nat} {Q : gO → gS → Prop}   (hd : 0 ≤ d)  (v : gV) (hp : p_X3_forget_5    v) (hQ : gqV Q (f_X3_forget_5   v)) : gG E m_X3_forget d Q 0 0 (rS v) 5 [] [] := by
  exact g_vret rfl dX3_forget_5 hQ
def f_X3_forget_0   (v : gV) : gV := f_X3_forget_5   (vM v 101 2 (0 : Int32))
def p_X3_forget_0   (v : gV) : Prop := p_X3_forget_5    (vM v 101 2 (0 : Int32))
set_option maxHeartbeats 4000000 in
set_option maxRecDepth 100000 in
theorem w_X3_forget_0 {E : gE} {d : Nat} {Q : gO → gS → Prop}   (hd : 0 ≤ d)  (v : gV) (hp : p_X3_forget_0    v) (hQ : gqV Q (f_X3_forget_0   v)) : gG E m_X3_forget d Q 0 0 (rS v) 0 [(0, .ref (gX E + 101))] [] := by
  refine g_aload_n 0 dX3_forget_0 rfl ?_
  refine g_iconst dX3_forget_1 (0 : Int32) (by decide) ?_
  refine r_put pf_X3_22_X3 rfl (by decide : kd 101 = (0, 2)) (by decide) (by decide) rfl (show 101 < 572 by decide) rfl rfl dX3_forget_2 ?_
  refine g_lv (lv' := []) [] rfl ?_
  exact w_X3_forget_5  hd     (vM v 101 2 (0 : Int32)) hp hQ
def f_X3_forget   (v : gV) : gV := f_X3_forget_0  v
def p_X3_forget   (v : gV) : Prop := p_X3_forget_0  v
theorem c_X3_forget {E : gE} {d : Nat}   (hd : 0 ≤ d)  (v : gV) (hp : p_X3_forget  v) : CT E m_X3_forget d 0 0 [.ref (gX E + 101)] (rS v) (Cq (.inl none) (f_X3_forget  v)) := CT.of ok_X3_forget rfl (Nat.le_of_ble_eq_true rfl) (w_X3_forget_0  hd  v hp ⟨rfl, rfl⟩)
def f_X4_priceUntil_84 (b : Nat) (K7 : Int32 → Int32 → Int32 → Int32 → gV → Int32)  (x1 : Int32) (x2 : Int32) (x3 : Int32) (x4 : Int32) (v : gV) : Int32 := K7 x1 x2 x3 (x4 + 1) v
def p_X4_priceUntil_84 (b : Nat) (K7 : Int32 → Int32 → Int32 → Int32 → gV → Int32)  (PK7 : Int32 → Int32 → Int32 → Int32 → gV → Prop)  (x1 : Int32) (x2 : Int32) (x3 : Int32) (x4 : Int32) (v : gV) : Prop := PK7 x1 x2 x3 (x4 + 1) v
set_option maxHeartbeats 4000000 in
set_option maxRecDepth 100000 in
theorem w_X4_priceUntil_84 {E : gE} {d : Nat} {Q : gO → gS → Prop} (b : Nat) (hb : isBk b) (hd : 1 ≤ d) (K7 : Int32 → Int32 → Int32 → Int32 → gV → Int32)  (PK7 : Int32 → Int32 → Int32 → Int32 → gV → Prop)  (hK7 : ∀ (x1 : Int32) (x2 : Int32) (x3 : Int32) (x4 : Int32) (v : gV), PK7 x1 x2 x3 x4 v → gqI Q v (K7 x1 x2 x3 x4 v) → gG E m_X4_priceUntil d Q 0 0 (rS v) 7 [(0, .ref (gX E + (b + 45))), (1, .int x1), (2, .int x2), (3, .int x3), (4, .int x4)] [])  (x1 : Int32) (x2 : Int32) (x3 : Int32) (x4 : Int32) (v : gV) (hp : p_X4_priceUntil_84 b K7 PK7 x1 x2 x3 x4 v) (hQ : gqI Q v (f_X4_priceUntil_84 b K7 x1 x2 x3 x4 v)) : gG E m_X4_priceUntil d Q 0 0 (rS v) 84 [(0, .ref (gX E + (b + 45))), (1, .int x1), (2, .int x2), (3, .int x3), (4, .int x4)] [] := by
  refine g_iinc 4 (x4 + 1) [(4, .int (x4 + 1)), (0, .ref (gX E + (b + 45))), (1, .int x1), (2, .int x2), (3, .int x3)] dX4_priceUntil_84 rfl rfl (by decide) rfl ?_
  refine g_goto 7 dX4_priceUntil_87 (by decide) ?_
  refine g_lv (lv' := [(0, .ref (gX E + (b + 45))), (1, .int x1), (2, .int x2), (3, .int x3), (4, .int (x4 + 1))]) [1, 2, 3, 4, 0] rfl ?_
  exact hK7 x1 x2 x3 (x4 + 1) v hp hQ
def f_X4_priceUntil_67 (b : Nat) (K7 : Int32 → Int32 → Int32 → Int32 → gV → Int32)  (x1 : Int32) (x2 : Int32) (x3 : Int32) (x4 : Int32) (s0 : Int32) (v : gV) : Int32 := f_X4_priceUntil_84 b K7 x1 x2 (if (s0 + (v.1 (b + 48) x4.toNatClampNeg)) < x3 then (s0 + (v.1 (b + 48) x4.toNatClampNeg)) else x3) x4 v
def p_X4_priceUntil_67 (b : Nat) (K7 : Int32 → Int32 → Int32 → Int32 → gV → Int32)  (PK7 : Int32 → Int32 → Int32 → Int32 → gV → Prop)  (x1 : Int32) (x2 : Int32) (x3 : Int32) (x4 : Int32) (s0 : Int32) (v : gV) : Prop := (vp_in x4 8) ∧ (p_X4_priceUntil_84 b K7 PK7 x1 x2 (if (s0 + (v.1 (b + 48) x4.toNatClampNeg)) < x3 then (s0 + (v.1 (b + 48) x4.toNatClampNeg)) else x3) x4 v)
set_option maxHeartbeats 4000000 in
set_option maxRecDepth 100000 in
theorem w_X4_priceUntil_67 {E : gE} {d : Nat} {Q : gO → gS → Prop} (b : Nat) (hb : isBk b) (hd : 1 ≤ d) (K7 : Int32 → Int32 → Int32 → Int32 → gV → Int32)  (PK7 : Int32 → Int32 → Int32 → Int32 → gV → Prop)  (hK7 : ∀ (x1 : Int32) (x2 : Int32) (x3 : Int32) (x4 : Int32) (v : gV), PK7 x1 x2 x3 x4 v → gqI Q v (K7 x1 x2 x3 x4 v) → gG E m_X4_priceUntil d Q 0 0 (rS v) 7 [(0, .ref (gX E + (b + 45))), (1, .int x1), (2, .int x2), (3, .int x3), (4, .int x4)] [])  (x1 : Int32) (x2 : Int32) (x3 : Int32) (x4 : Int32) (s0 : Int32) (v : gV) (hp : p_X4_priceUntil_67 b K7 PK7 x1 x2 x3 x4 s0 v) (hQ : gqI Q v (f_X4_priceUntil_67 b K7 x1 x2 x3 x4 s0 v)) : gG E m_X4_priceUntil d Q 0 0 (rS v) 67 [(0, .ref (gX E + (b + 45))), (1, .int x1), (2, .int x2), (3, .int x3), (4, .int x4)] [.int s0] := by
  refine g_istore [(5, .int s0), (0, .ref (gX E + (b + 45))), (1, .int x1), (2, .int x2), (3, .int x3), (4, .int x4)] dX4_priceUntil_67 (by decide) rfl ?_
  refine g_iload_n 4 dX4_priceUntil_69 rfl ?_
  refine g_iload 0 dX4_priceUntil_70 rfl ?_
  refine g_aload_n 1 dX4_priceUntil_72 rfl ?_
  refine r_get (.ref (gX E + (b + 48))) f_X4_18_X4 rfl (kb_45 hb) (lt_b hb (by decide)) dX4_priceUntil_73 (fun _ => rfl) ?_
  refine g_iload 5 dX4_priceUntil_76 rfl ?_
  obtain ⟨h10, hp⟩ := hp
  refine g_iald (kb_48 hb) (lt_b hb (by decide)) h10 dX4_priceUntil_78 ?_
  refine g_iadd dX4_priceUntil_79 ?_
  refine r_mmin mw_X4_50 rfl (Nat.le_of_ble_eq_true rfl) (by omega) dX4_priceUntil_80 ?_
  refine g_istore_n [(3, .int ((if (s0 + (v.1 (b + 48) x4.toNatClampNeg)) < x3 then (s0 + (v.1 (b + 48) x4.toNatClampNeg)) else x3))), (5, .int s0), (0, .ref (gX E + (b + 45))), (1, .int x1), (2, .int x2), (4, .int x4)] dX4_priceUntil_83 rfl (by decide) rfl ?_
  refine g_lv (lv' := [(0, .ref (gX E + (b + 45))), (1, .int x1), (2, .int x2), (3, .int ((if (s0 + (v.1 (b + 48) x4.toNatClampNeg)) < x3 then (s0 + (v.1 (b + 48) x4.toNatClampNeg)) else x3))), (4, .int x4)]) [2, 3, 4, 0, 5] rfl ?_
  exact w_X4_priceUntil_84 b hb hd K7 PK7 hK7 x1 x2 (if (s0 + (v.1 (b + 48) x4.toNatClampNeg)) < x3 then (s0 + (v.1 (b + 48) x4.toNatClampNeg)) else x3) x4 v hp hQ
def f_X4_priceUntil_7 (b : Nat) : Nat → Int32 → Int32 → Int32 → Int32 → gV → Int32
  | 0, _, _, _, _, v => 0
  | n + 1, x1, x2, x3, x4, v => if (v.1 (b + 45) 4) ≤ x4 then x3 else (if x2 < (v.1 (b + 46) x4.toNatClampNeg) then (f_X4_priceUntil_84 b (fun x1 x2 x3 x4 v => f_X4_priceUntil_7 b  n x1 x2 x3 x4 v) x1 x2 x3 x4 v) else (if (v.1 (b + 47) x4.toNatClampNeg) < x2 then (f_X4_priceUntil_84 b (fun x1 x2 x3 x4 v => f_X4_priceUntil_7 b  n x1 x2 x3 x4 v) x1 x2 x3 x4 v) else (if x1 < (v.1 (b + 46) x4.toNatClampNeg) then (f_X4_priceUntil_67 b (fun x1 x2 x3 x4 v => f_X4_priceUntil_7 b  n x1 x2 x3 x4 v) x1 x2 x3 x4 (v.1 (b + 49) ((v.1 (b + 46) x4.toNatClampNeg) - (1 : Int32)).toNatClampNeg) v) else (f_X4_priceUntil_67 b (fun x1 x2 x3 x4 v => f_X4_priceUntil_7 b  n x1 x2 x3 x4 v) x1 x2 x3 x4 (0 : Int32) v))))
def p_X4_priceUntil_7 (b : Nat) : Nat → Int32 → Int32 → Int32 → Int32 → gV → Prop
  | 0, _, _, _, _, _ => False
  | n + 1, x1, x2, x3, x4, v => (((v.1 (b + 45) 4) ≤ x4) → (True)) ∧ (¬ ((v.1 (b + 45) 4) ≤ x4) → ((vp_in x4 8) ∧ (((x2 < (v.1 (b + 46) x4.toNatClampNeg)) → (p_X4_priceUntil_84 b (fun x1 x2 x3 x4 v => f_X4_priceUntil_7 b  n x1 x2 x3 x4 v) (fun x1 x2 x3 x4 v => p_X4_priceUntil_7 b   n x1 x2 x3 x4 v) x1 x2 x3 x4 v)) ∧ (¬ (x2 < (v.1 (b + 46) x4.toNatClampNeg)) → ((vp_in x4 8) ∧ ((((v.1 (b + 47) x4.toNatClampNeg) < x2) → (p_X4_priceUntil_84 b (fun x1 x2 x3 x4 v => f_X4_priceUntil_7 b  n x1 x2 x3 x4 v) (fun x1 x2 x3 x4 v => p_X4_priceUntil_7 b   n x1 x2 x3 x4 v) x1 x2 x3 x4 v)) ∧ (¬ ((v.1 (b + 47) x4.toNatClampNeg) < x2) → ((vp_in x4 8) ∧ (((x1 < (v.1 (b + 46) x4.toNatClampNeg)) → ((vp_in x4 8) ∧ ((vp_in ((v.1 (b + 46) x4.toNatClampNeg) - (1 : Int32)) 100) ∧ (p_X4_priceUntil_67 b (fun x1 x2 x3 x4 v => f_X4_priceUntil_7 b  n x1 x2 x3 x4 v) (fun x1 x2 x3 x4 v => p_X4_priceUntil_7 b   n x1 x2 x3 x4 v) x1 x2 x3 x4 (v.1 (b + 49) ((v.1 (b + 46) x4.toNatClampNeg) - (1 : Int32)).toNatClampNeg) v)))) ∧ (¬ (x1 < (v.1 (b + 46) x4.toNatClampNeg)) → (p_X4_priceUntil_67 b (fun x1 x2 x3 x4 v => f_X4_priceUntil_7 b  n x1 x2 x3 x4 v) (fun x1 x2 x3 x4 v => p_X4_priceUntil_7 b   n x1 x2 x3 x4 v) x1 x2 x3 x4 (0 : Int32) v)))))))))))
set_option maxHeartbeats 4000000 in
set_option maxRecDepth 100000 in
theorem w_X4_priceUntil_7 {E : gE} {d : Nat} {Q : gO → gS → Prop} (b : Nat) (hb : isBk b) (hd : 1 ≤ d) : ∀ (n : Nat) (x1 : Int32) (x2 : Int32) (x3 : Int32) (x4 : Int32) (v : gV), p_X4_priceUntil_7 b   n x1 x2 x3 x4 v → gqI Q v (f_X4_priceUntil_7 b  n x1 x2 x3 x4 v) → gG E m_X4_priceUntil d Q 0 0 (rS v) 7 [(0, .ref (gX E + (b + 45))), (1, .int x1), (2, .int x2), (3, .int x3), (4, .int x4)] [] := by
  intro n
  induction n with
  | zero => intro x1 x2 x3 x4 v hp; exact hp.elim
  | succ n ih =>
    intro x1 x2 x3 x4 v hp hQ
    refine g_iload 4 dX4_priceUntil_7 rfl ?_
    refine g_aload_n 0 dX4_priceUntil_9 rfl ?_
    refine r_get (.int (v.1 (b + 45) 4)) f_X4_28_X4 rfl (kb_45 hb) (lt_b hb (by decide)) dX4_priceUntil_10 (fun _ => rfl) ?_
    refine g_icmp_ge 90 dX4_priceUntil_13 (by decide) (fun h1 => ?_) (fun h1 => ?_)
    · have hQ := qp (P := gqI Q v) h1 hQ
      have hp := hp.1 h1
      refine g_iload_n 3 dX4_priceUntil_90 rfl ?_
      exact g_iret rfl dX4_priceUntil_91 hQ
    · have hQ := qn (P := gqI Q v) h1 hQ
      have hp := hp.2 h1
      refine g_aload_n 0 dX4_priceUntil_16 rfl ?_
      refine r_get (.ref (gX E + (b + 46))) f_X4_9_X4 rfl (kb_45 hb) (lt_b hb (by decide)) dX4_priceUntil_17 (fun _ => rfl) ?_
      refine g_iload 4 dX4_priceUntil_20 rfl ?_
      obtain ⟨h2, hp⟩ := hp
      refine g_iald (kb_46 hb) (lt_b hb (by decide)) h2 dX4_priceUntil_22 ?_
      refine g_iload_n 2 dX4_priceUntil_23 rfl ?_
      refine g_icmp_gt 84 dX4_priceUntil_24 (by decide) (fun h3 => ?_) (fun h3 => ?_)
      · have hQ := qp (P := gqI Q v) h3 hQ
        have hp := hp.1 h3
        exact w_X4_priceUntil_84 b hb hd (fun x1 x2 x3 x4 v => f_X4_priceUntil_7 b  n x1 x2 x3 x4 v) (fun x1 x2 x3 x4 v => p_X4_priceUntil_7 b   n x1 x2 x3 x4 v) ih x1 x2 x3 x4 v hp hQ
      · have hQ := qn (P := gqI Q v) h3 hQ
        have hp := hp.2 h3
        refine g_iload_n 2 dX4_priceUntil_27 rfl ?_
        refine g_aload_n 0 dX4_priceUntil_28 rfl ?_
        refine r_get (.ref (gX E + (b + 47))) f_X4_15_X4 rfl (kb_45 hb) (lt_b hb (by decide)) dX4_priceUntil_29 (fun _ => rfl) ?_
        refine g_iload 4 dX4_priceUntil_32 rfl ?_
        obtain ⟨h4, hp⟩ := hp
        refine g_iald (kb_47 hb) (lt_b hb (by decide)) h4 dX4_priceUntil_34 ?_
        refine g_icmp_gt 84 dX4_priceUntil_35 (by decide) (fun h5 => ?_) (fun h5 => ?_)
        · have hQ := qp (P := gqI Q v) h5 hQ
          have hp := hp.1 h5
          exact w_X4_priceUntil_84 b hb hd (fun x1 x2 x3 x4 v => f_X4_priceUntil_7 b  n x1 x2 x3 x4 v) (fun x1 x2 x3 x4 v => p_X4_priceUntil_7 b   n x1 x2 x3 x4 v) ih x1 x2 x3 x4 v hp hQ
        · have hQ := qn (P := gqI Q v) h5 hQ
          have hp := hp.2 h5
          refine g_aload_n 0 dX4_priceUntil_38 rfl ?_
          refine r_get (.ref (gX E + (b + 46))) f_X4_9_X4 rfl (kb_45 hb) (lt_b hb (by decide)) dX4_priceUntil_39 (fun _ => rfl) ?_
          refine g_iload 4 dX4_priceUntil_42 rfl ?_
          obtain ⟨h6, hp⟩ := hp
          refine g_iald (kb_46 hb) (lt_b hb (by decide)) h6 dX4_priceUntil_44 ?_
          refine g_iload_n 1 dX4_priceUntil_45 rfl ?_
          refine g_icmp_gt 53 dX4_priceUntil_46 (by decide) (fun h7 => ?_) (fun h7 => ?_)
          · have hQ := qp (P := gqI Q v) h7 hQ
            have hp := hp.1 h7
            refine g_aload_n 0 dX4_priceUntil_53 rfl ?_
            refine r_get (.ref (gX E + (b + 49))) f_X4_21_X4 rfl (kb_45 hb) (lt_b hb (by decide)) dX4_priceUntil_54 (fun _ => rfl) ?_
            refine g_aload_n 0 dX4_priceUntil_57 rfl ?_
            refine r_get (.ref (gX E + (b + 46))) f_X4_9_X4 rfl (kb_45 hb) (lt_b hb (by decide)) dX4_priceUntil_58 (fun _ => rfl) ?_
            refine g_iload 4 dX4_priceUntil_61 rfl ?_
            obtain ⟨h8, hp⟩ := hp
            refine g_iald (kb_46 hb) (lt_b hb (by decide)) h8 dX4_priceUntil_63 ?_
            refine g_iconst dX4_priceUntil_64 (1 : Int32) (by decide) ?_
            refine g_isub dX4_priceUntil_65 ?_
            obtain ⟨h9, hp⟩ := hp
            refine g_iald (kb_49 hb) (lt_b hb (by decide)) h9 dX4_priceUntil_66 ?_
            exact w_X4_priceUntil_67 b hb hd (fun x1 x2 x3 x4 v => f_X4_priceUntil_7 b  n x1 x2 x3 x4 v) (fun x1 x2 x3 x4 v => p_X4_priceUntil_7 b   n x1 x2 x3 x4 v) ih x1 x2 x3 x4 (v.1 (b + 49) ((v.1 (b + 46) x4.toNatClampNeg) - (1 : Int32)).toNatClampNeg) v hp hQ
          · have hQ := qn (P := gqI Q v) h7 hQ
            have hp := hp.2 h7
            refine g_iconst dX4_priceUntil_49 (0 : Int32) (by decide) ?_
            refine g_goto 67 dX4_priceUntil_50 (by decide) ?_
            exact w_X4_priceUntil_67 b hb hd (fun x1 x2 x3 x4 v => f_X4_priceUntil_7 b  n x1 x2 x3 x4 v) (fun x1 x2 x3 x4 v => p_X4_priceUntil_7 b   n x1 x2 x3 x4 v) ih x1 x2 x3 x4 (0 : Int32) v hp hQ
def f_X4_priceUntil_0 (b : Nat) (x1 : Int32) (x2 : Int32) (v : gV) : Int32 := f_X4_priceUntil_7 b  5000 x1 x2 (1000 : Int32) (0 : Int32) v
def p_X4_priceUntil_0 (b : Nat) (x1 : Int32) (x2 : Int32) (v : gV) : Prop := p_X4_priceUntil_7 b   5000 x1 x2 (1000 : Int32) (0 : Int32) v
set_option maxHeartbeats 4000000 in
set_option maxRecDepth 100000 in
theorem w_X4_priceUntil_0 {E : gE} {d : Nat} {Q : gO → gS → Prop} (b : Nat) (hb : isBk b) (hd : 1 ≤ d) (x1 : Int32) (x2 : Int32) (v : gV) (hp : p_X4_priceUntil_0 b   x1 x2 v) (hQ : gqI Q v (f_X4_priceUntil_0 b  x1 x2 v)) : gG E m_X4_priceUntil d Q 0 0 (rS v) 0 [(0, .ref (gX E + (b + 45))), (1, .int x1), (2, .int x2)] [] := by
  refine g_sipush dX4_priceUntil_0 (1000 : Int32) (by decide) ?_
  refine g_istore_n [(3, .int ((1000 : Int32))), (0, .ref (gX E + (b + 45))), (1, .int x1), (2, .int x2)] dX4_priceUntil_3 rfl (by decide) rfl ?_
  refine g_iconst dX4_priceUntil_4 (0 : Int32) (by decide) ?_
  refine g_istore [(4, .int ((0 : Int32))), (3, .int ((1000 : Int32))), (0, .ref (gX E + (b + 45))), (1, .int x1), (2, .int x2)] dX4_priceUntil_5 (by decide) rfl ?_
  refine g_lv (lv' := [(0, .ref (gX E + (b + 45))), (1, .int x1), (2, .int x2), (3, .int ((1000 : Int32))), (4, .int ((0 : Int32)))]) [2, 3, 4, 1, 0] rfl ?_
  exact w_X4_priceUntil_7 b hb hd    5000 x1 x2 (1000 : Int32) (0 : Int32) v hp hQ
def f_X4_priceUntil (b : Nat) (x1 : Int32) (x2 : Int32) (v : gV) : Int32 := f_X4_priceUntil_0 b x1 x2 v
def p_X4_priceUntil (b : Nat) (x1 : Int32) (x2 : Int32) (v : gV) : Prop := p_X4_priceUntil_0 b x1 x2 v
theorem c_X4_priceUntil {E : gE} {d : Nat} (b : Nat) (hb : isBk b) (hd : 1 ≤ d) (x1 : Int32) (x2 : Int32) (v : gV) (hp : p_X4_priceUntil b x1 x2 v) : CT E m_X4_priceUntil d 0 0 [.ref (gX E + (b + 45)), .int x1, .int x2] (rS v) (Cq (.inl (some (.int (f_X4_priceUntil b x1 x2 v)))) v) := CT.of ok_X4_priceUntil rfl (Nat.le_of_ble_eq_true rfl) (w_X4_priceUntil_0 b hb hd x1 x2 v hp ⟨rfl, rfl⟩)
def f_X4_priceOfSet_30 (b : Nat) (K4 : Int32 → Int32 → Int32 → gV → Int32)  (x1 : Int32) (x2 : Int32) (x3 : Int32) (v : gV) : Int32 := K4 x1 x2 (x3 + 1) v
def p_X4_priceOfSet_30 (b : Nat) (K4 : Int32 → Int32 → Int32 → gV → Int32)  (PK4 : Int32 → Int32 → Int32 → gV → Prop)  (x1 : Int32) (x2 : Int32) (x3 : Int32) (v : gV) : Prop := PK4 x1 x2 (x3 + 1) v
set_option maxHeartbeats 4000000 in
set_option maxRecDepth 100000 in
theorem w_X4_priceOfSet_30 {E : gE} {d : Nat} {Q : gO → gS → Prop} (b : Nat) (hb : isBk b) (hd : 0 ≤ d) (K4 : Int32 → Int32 → Int32 → gV → Int32)  (PK4 : Int32 → Int32 → Int32 → gV → Prop)  (hK4 : ∀ (x1 : Int32) (x2 : Int32) (x3 : Int32) (v : gV), PK4 x1 x2 x3 v → gqI Q v (K4 x1 x2 x3 v) → gG E m_X4_priceOfSet d Q 0 0 (rS v) 4 [(0, .ref (gX E + (b + 45))), (1, .int x1), (2, .int x2), (3, .int x3)] [])  (x1 : Int32) (x2 : Int32) (x3 : Int32) (v : gV) (hp : p_X4_priceOfSet_30 b K4 PK4 x1 x2 x3 v) (hQ : gqI Q v (f_X4_priceOfSet_30 b K4 x1 x2 x3 v)) : gG E m_X4_priceOfSet d Q 0 0 (rS v) 30 [(0, .ref (gX E + (b + 45))), (1, .int x1), (2, .int x2), (3, .int x3)] [] := by
  refine g_iinc 3 (x3 + 1) [(3, .int (x3 + 1)), (0, .ref (gX E + (b + 45))), (1, .int x1), (2, .int x2)] dX4_priceOfSet_30 rfl rfl (by decide) rfl ?_
  refine g_goto 4 dX4_priceOfSet_33 (by decide) ?_
  refine g_lv (lv' := [(0, .ref (gX E + (b + 45))), (1, .int x1), (2, .int x2), (3, .int (x3 + 1))]) [1, 2, 3, 0] rfl ?_
  exact hK4 x1 x2 (x3 + 1) v hp hQ
def f_X4_priceOfSet_4 (b : Nat) : Nat → Int32 → Int32 → Int32 → gV → Int32
  | 0, _, _, _, v => 0
  | n + 1, x1, x2, x3, v => if (v.1 (b + 45) 4) ≤ x3 then x2 else (if ((x1 >>> (x3 &&& 31)) &&& (1 : Int32)) = (1 : Int32) then (f_X4_priceOfSet_30 b (fun x1 x2 x3 v => f_X4_priceOfSet_4 b  n x1 x2 x3 v) x1 (x2 + (v.1 (b + 48) x3.toNatClampNeg)) x3 v) else (f_X4_priceOfSet_30 b (fun x1 x2 x3 v => f_X4_priceOfSet_4 b  n x1 x2 x3 v) x1 x2 x3 v))
def p_X4_priceOfSet_4 (b : Nat) : Nat → Int32 → Int32 → Int32 → gV → Prop
  | 0, _, _, _, _ => False
  | n + 1, x1, x2, x3, v => (((v.1 (b + 45) 4) ≤ x3) → (True)) ∧ (¬ ((v.1 (b + 45) 4) ≤ x3) → (((((x1 >>> (x3 &&& 31)) &&& (1 : Int32)) = (1 : Int32)) → ((vp_in x3 8) ∧ (p_X4_priceOfSet_30 b (fun x1 x2 x3 v => f_X4_priceOfSet_4 b  n x1 x2 x3 v) (fun x1 x2 x3 v => p_X4_priceOfSet_4 b   n x1 x2 x3 v) x1 (x2 + (v.1 (b + 48) x3.toNatClampNeg)) x3 v))) ∧ (¬ (((x1 >>> (x3 &&& 31)) &&& (1 : Int32)) = (1 : Int32)) → (p_X4_priceOfSet_30 b (fun x1 x2 x3 v => f_X4_priceOfSet_4 b  n x1 x2 x3 v) (fun x1 x2 x3 v => p_X4_priceOfSet_4 b   n x1 x2 x3 v) x1 x2 x3 v))))
set_option maxHeartbeats 4000000 in
set_option maxRecDepth 100000 in
theorem w_X4_priceOfSet_4 {E : gE} {d : Nat} {Q : gO → gS → Prop} (b : Nat) (hb : isBk b) (hd : 0 ≤ d) : ∀ (n : Nat) (x1 : Int32) (x2 : Int32) (x3 : Int32) (v : gV), p_X4_priceOfSet_4 b   n x1 x2 x3 v → gqI Q v (f_X4_priceOfSet_4 b  n x1 x2 x3 v) → gG E m_X4_priceOfSet d Q 0 0 (rS v) 4 [(0, .ref (gX E + (b + 45))), (1, .int x1), (2, .int x2), (3, .int x3)] [] := by
  intro n
  induction n with
  | zero => intro x1 x2 x3 v hp; exact hp.elim
  | succ n ih =>
    intro x1 x2 x3 v hp hQ
    refine g_iload_n 3 dX4_priceOfSet_4 rfl ?_
    refine g_aload_n 0 dX4_priceOfSet_5 rfl ?_
    refine r_get (.int (v.1 (b + 45) 4)) f_X4_28_X4 rfl (kb_45 hb) (lt_b hb (by decide)) dX4_priceOfSet_6 (fun _ => rfl) ?_
    refine g_icmp_ge 36 dX4_priceOfSet_9 (by decide) (fun h1 => ?_) (fun h1 => ?_)
    · have hQ := qp (P := gqI Q v) h1 hQ
      have hp := hp.1 h1
      refine g_iload_n 2 dX4_priceOfSet_36 rfl ?_
      exact g_iret rfl dX4_priceOfSet_37 hQ
    · have hQ := qn (P := gqI Q v) h1 hQ
      have hp := hp.2 h1
      refine g_iload_n 1 dX4_priceOfSet_12 rfl ?_
      refine g_iload_n 3 dX4_priceOfSet_13 rfl ?_
      refine g_ishr dX4_priceOfSet_14 ?_
      refine g_iconst dX4_priceOfSet_15 (1 : Int32) (by decide) ?_
      refine g_iand dX4_priceOfSet_16 ?_
      refine g_iconst dX4_priceOfSet_17 (1 : Int32) (by decide) ?_
      refine g_icmp_ne 30 dX4_priceOfSet_18 (by decide) (fun h2 => ?_) (fun h2 => ?_)
      · have hQ := qn (P := gqI Q v) h2 hQ
        have hp := hp.2 h2
        exact w_X4_priceOfSet_30 b hb hd (fun x1 x2 x3 v => f_X4_priceOfSet_4 b  n x1 x2 x3 v) (fun x1 x2 x3 v => p_X4_priceOfSet_4 b   n x1 x2 x3 v) ih x1 x2 x3 v hp hQ
      · have hQ := qp (P := gqI Q v) h2 hQ
        have hp := hp.1 h2
        refine g_iload_n 2 dX4_priceOfSet_21 rfl ?_
        refine g_aload_n 0 dX4_priceOfSet_22 rfl ?_
        refine r_get (.ref (gX E + (b + 48))) f_X4_18_X4 rfl (kb_45 hb) (lt_b hb (by decide)) dX4_priceOfSet_23 (fun _ => rfl) ?_
        refine g_iload_n 3 dX4_priceOfSet_26 rfl ?_
        obtain ⟨h3, hp⟩ := hp
        refine g_iald (kb_48 hb) (lt_b hb (by decide)) h3 dX4_priceOfSet_27 ?_
        refine g_iadd dX4_priceOfSet_28 ?_
        refine g_istore_n [(2, .int (x2 + (v.1 (b + 48) x3.toNatClampNeg))), (0, .ref (gX E + (b + 45))), (1, .int x1), (3, .int x3)] dX4_priceOfSet_29 rfl (by decide) rfl ?_
        refine g_lv (lv' := [(0, .ref (gX E + (b + 45))), (1, .int x1), (2, .int (x2 + (v.1 (b + 48) x3.toNatClampNeg))), (3, .int x3)]) [1, 2, 0, 3] rfl ?_
        exact w_X4_priceOfSet_30 b hb hd (fun x1 x2 x3 v => f_X4_priceOfSet_4 b  n x1 x2 x3 v) (fun x1 x2 x3 v => p_X4_priceOfSet_4 b   n x1 x2 x3 v) ih x1 (x2 + (v.1 (b + 48) x3.toNatClampNeg)) x3 v hp hQ
def f_X4_priceOfSet_0 (b : Nat) (x1 : Int32) (v : gV) : Int32 := f_X4_priceOfSet_4 b  5000 x1 (0 : Int32) (0 : Int32) v
def p_X4_priceOfSet_0 (b : Nat) (x1 : Int32) (v : gV) : Prop := p_X4_priceOfSet_4 b   5000 x1 (0 : Int32) (0 : Int32) v
set_option maxHeartbeats 4000000 in
set_option maxRecDepth 100000 in
theorem w_X4_priceOfSet_0 {E : gE} {d : Nat} {Q : gO → gS → Prop} (b : Nat) (hb : isBk b) (hd : 0 ≤ d) (x1 : Int32) (v : gV) (hp : p_X4_priceOfSet_0 b   x1 v) (hQ : gqI Q v (f_X4_priceOfSet_0 b  x1 v)) : gG E m_X4_priceOfSet d Q 0 0 (rS v) 0 [(0, .ref (gX E + (b + 45))), (1, .int x1)] [] := by
  refine g_iconst dX4_priceOfSet_0 (0 : Int32) (by decide) ?_
  refine g_istore_n [(2, .int ((0 : Int32))), (0, .ref (gX E + (b + 45))), (1, .int x1)] dX4_priceOfSet_1 rfl (by decide) rfl ?_
  refine g_iconst dX4_priceOfSet_2 (0 : Int32) (by decide) ?_
  refine g_istore_n [(3, .int ((0 : Int32))), (2, .int ((0 : Int32))), (0, .ref (gX E + (b + 45))), (1, .int x1)] dX4_priceOfSet_3 rfl (by decide) rfl ?_
  refine g_lv (lv' := [(0, .ref (gX E + (b + 45))), (1, .int x1), (2, .int ((0 : Int32))), (3, .int ((0 : Int32)))]) [2, 3, 1, 0] rfl ?_
  exact w_X4_priceOfSet_4 b hb hd    5000 x1 (0 : Int32) (0 : Int32) v hp hQ
def f_X4_priceOfSet (b : Nat) (x1 : Int32) (v : gV) : Int32 := f_X4_priceOfSet_0 b x1 v
def p_X4_priceOfSet (b : Nat) (x1 : Int32) (v : gV) : Prop := p_X4_priceOfSet_0 b x1 v
theorem c_X4_priceOfSet {E : gE} {d : Nat} (b : Nat) (hb : isBk b) (hd : 0 ≤ d) (x1 : Int32) (v : gV) (hp : p_X4_priceOfSet b x1 v) : CT E m_X4_priceOfSet d 0 0 [.ref (gX E + (b + 45)), .int x1] (rS v) (Cq (.inl (some (.int (f_X4_priceOfSet b x1 v)))) v) := CT.of ok_X4_priceOfSet rfl (Nat.le_of_ble_eq_true rfl) (w_X4_priceOfSet_0 b hb hd x1 v hp ⟨rfl, rfl⟩)
def f_X4_dayAfter_49 (b : Nat) (K5 : Int32 → Int32 → Int32 → Int32 → gV → Int32)  (x1 : Int32) (x2 : Int32) (x3 : Int32) (x4 : Int32) (v : gV) : Int32 := K5 x1 x2 x3 (x4 + 1) v
def p_X4_dayAfter_49 (b : Nat) (K5 : Int32 → Int32 → Int32 → Int32 → gV → Int32)  (PK5 : Int32 → Int32 → Int32 → Int32 → gV → Prop)  (x1 : Int32) (x2 : Int32) (x3 : Int32) (x4 : Int32) (v : gV) : Prop := PK5 x1 x2 x3 (x4 + 1) v
set_option maxHeartbeats 4000000 in
set_option maxRecDepth 100000 in
theorem w_X4_dayAfter_49 {E : gE} {d : Nat} {Q : gO → gS → Prop} (b : Nat) (hb : isBk b) (hd : 1 ≤ d) (K5 : Int32 → Int32 → Int32 → Int32 → gV → Int32)  (PK5 : Int32 → Int32 → Int32 → Int32 → gV → Prop)  (hK5 : ∀ (x1 : Int32) (x2 : Int32) (x3 : Int32) (x4 : Int32) (v : gV), PK5 x1 x2 x3 x4 v → gqI Q v (K5 x1 x2 x3 x4 v) → gG E m_X4_dayAfter d Q 0 0 (rS v) 5 [(0, .ref (gX E + (b + 45))), (1, .int x1), (2, .int x2), (3, .int x3), (4, .int x4)] [])  (x1 : Int32) (x2 : Int32) (x3 : Int32) (x4 : Int32) (v : gV) (hp : p_X4_dayAfter_49 b K5 PK5 x1 x2 x3 x4 v) (hQ : gqI Q v (f_X4_dayAfter_49 b K5 x1 x2 x3 x4 v)) : gG E m_X4_dayAfter d Q 0 0 (rS v) 49 [(0, .ref (gX E + (b + 45))), (1, .int x1), (2, .int x2), (3, .int x3), (4, .int x4)] [] := by
  refine g_iinc 4 (x4 + 1) [(4, .int (x4 + 1)), (0, .ref (gX E + (b + 45))), (1, .int x1), (2, .int x2), (3, .int x3)] dX4_dayAfter_49 rfl rfl (by decide) rfl ?_
  refine g_goto 5 dX4_dayAfter_52 (by decide) ?_
  refine g_lv (lv' := [(0, .ref (gX E + (b + 45))), (1, .int x1), (2, .int x2), (3, .int x3), (4, .int (x4 + 1))]) [1, 2, 3, 4, 0] rfl ?_
  exact hK5 x1 x2 x3 (x4 + 1) v hp hQ
def f_X4_dayAfter_5 (b : Nat) : Nat → Int32 → Int32 → Int32 → Int32 → gV → Int32
  | 0, _, _, _, _, v => 0
  | n + 1, x1, x2, x3, x4, v => if (v.1 (b + 45) 4) ≤ x4 then x3 else (if ((x1 >>> (x4 &&& 31)) &&& (1 : Int32)) = (1 : Int32) then (if x2 < (v.1 (b + 46) x4.toNatClampNeg) then (f_X4_dayAfter_49 b (fun x1 x2 x3 x4 v => f_X4_dayAfter_5 b  n x1 x2 x3 x4 v) x1 x2 x3 x4 v) else (f_X4_dayAfter_49 b (fun x1 x2 x3 x4 v => f_X4_dayAfter_5 b  n x1 x2 x3 x4 v) x1 x2 (if x3 < ((v.1 (b + 47) x4.toNatClampNeg) + (1 : Int32)) then ((v.1 (b + 47) x4.toNatClampNeg) + (1 : Int32)) else x3) x4 v)) else (f_X4_dayAfter_49 b (fun x1 x2 x3 x4 v => f_X4_dayAfter_5 b  n x1 x2 x3 x4 v) x1 x2 x3 x4 v))
def p_X4_dayAfter_5 (b : Nat) : Nat → Int32 → Int32 → Int32 → Int32 → gV → Prop
  | 0, _, _, _, _, _ => False
  | n + 1, x1, x2, x3, x4, v => (((v.1 (b + 45) 4) ≤ x4) → (True)) ∧ (¬ ((v.1 (b + 45) 4) ≤ x4) → (((((x1 >>> (x4 &&& 31)) &&& (1 : Int32)) = (1 : Int32)) → ((vp_in x4 8) ∧ (((x2 < (v.1 (b + 46) x4.toNatClampNeg)) → (p_X4_dayAfter_49 b (fun x1 x2 x3 x4 v => f_X4_dayAfter_5 b  n x1 x2 x3 x4 v) (fun x1 x2 x3 x4 v => p_X4_dayAfter_5 b   n x1 x2 x3 x4 v) x1 x2 x3 x4 v)) ∧ (¬ (x2 < (v.1 (b + 46) x4.toNatClampNeg)) → ((vp_in x4 8) ∧ (p_X4_dayAfter_49 b (fun x1 x2 x3 x4 v => f_X4_dayAfter_5 b  n x1 x2 x3 x4 v) (fun x1 x2 x3 x4 v => p_X4_dayAfter_5 b   n x1 x2 x3 x4 v) x1 x2 (if x3 < ((v.1 (b + 47) x4.toNatClampNeg) + (1 : Int32)) then ((v.1 (b + 47) x4.toNatClampNeg) + (1 : Int32)) else x3) x4 v)))))) ∧ (¬ (((x1 >>> (x4 &&& 31)) &&& (1 : Int32)) = (1 : Int32)) → (p_X4_dayAfter_49 b (fun x1 x2 x3 x4 v => f_X4_dayAfter_5 b  n x1 x2 x3 x4 v) (fun x1 x2 x3 x4 v => p_X4_dayAfter_5 b   n x1 x2 x3 x4 v) x1 x2 x3 x4 v))))
set_option maxHeartbeats 4000000 in
set_option maxRecDepth 100000 in
theorem w_X4_dayAfter_5 {E : gE} {d : Nat} {Q : gO → gS → Prop} (b : Nat) (hb : isBk b) (hd : 1 ≤ d) : ∀ (n : Nat) (x1 : Int32) (x2 : Int32) (x3 : Int32) (x4 : Int32) (v : gV), p_X4_dayAfter_5 b   n x1 x2 x3 x4 v → gqI Q v (f_X4_dayAfter_5 b  n x1 x2 x3 x4 v) → gG E m_X4_dayAfter d Q 0 0 (rS v) 5 [(0, .ref (gX E + (b + 45))), (1, .int x1), (2, .int x2), (3, .int x3), (4, .int x4)] [] := by
  intro n
  induction n with
  | zero => intro x1 x2 x3 x4 v hp; exact hp.elim
  | succ n ih =>
    intro x1 x2 x3 x4 v hp hQ
    refine g_iload 4 dX4_dayAfter_5 rfl ?_
    refine g_aload_n 0 dX4_dayAfter_7 rfl ?_
    refine r_get (.int (v.1 (b + 45) 4)) f_X4_28_X4 rfl (kb_45 hb) (lt_b hb (by decide)) dX4_dayAfter_8 (fun _ => rfl) ?_
    refine g_icmp_ge 55 dX4_dayAfter_11 (by decide) (fun h1 => ?_) (fun h1 => ?_)
    · have hQ := qp (P := gqI Q v) h1 hQ
      have hp := hp.1 h1
      refine g_iload_n 3 dX4_dayAfter_55 rfl ?_
      exact g_iret rfl dX4_dayAfter_56 hQ
    · have hQ := qn (P := gqI Q v) h1 hQ
      have hp := hp.2 h1
      refine g_iload_n 1 dX4_dayAfter_14 rfl ?_
      refine g_iload 4 dX4_dayAfter_15 rfl ?_
      refine g_ishr dX4_dayAfter_17 ?_
      refine g_iconst dX4_dayAfter_18 (1 : Int32) (by decide) ?_
      refine g_iand dX4_dayAfter_19 ?_
      refine g_iconst dX4_dayAfter_20 (1 : Int32) (by decide) ?_
      refine g_icmp_ne 49 dX4_dayAfter_21 (by decide) (fun h2 => ?_) (fun h2 => ?_)
      · have hQ := qn (P := gqI Q v) h2 hQ
        have hp := hp.2 h2
        exact w_X4_dayAfter_49 b hb hd (fun x1 x2 x3 x4 v => f_X4_dayAfter_5 b  n x1 x2 x3 x4 v) (fun x1 x2 x3 x4 v => p_X4_dayAfter_5 b   n x1 x2 x3 x4 v) ih x1 x2 x3 x4 v hp hQ
      · have hQ := qp (P := gqI Q v) h2 hQ
        have hp := hp.1 h2
        refine g_aload_n 0 dX4_dayAfter_24 rfl ?_
        refine r_get (.ref (gX E + (b + 46))) f_X4_9_X4 rfl (kb_45 hb) (lt_b hb (by decide)) dX4_dayAfter_25 (fun _ => rfl) ?_
        refine g_iload 4 dX4_dayAfter_28 rfl ?_
        obtain ⟨h3, hp⟩ := hp
        refine g_iald (kb_46 hb) (lt_b hb (by decide)) h3 dX4_dayAfter_30 ?_
        refine g_iload_n 2 dX4_dayAfter_31 rfl ?_
        refine g_icmp_gt 49 dX4_dayAfter_32 (by decide) (fun h4 => ?_) (fun h4 => ?_)
        · have hQ := qp (P := gqI Q v) h4 hQ
          have hp := hp.1 h4
          exact w_X4_dayAfter_49 b hb hd (fun x1 x2 x3 x4 v => f_X4_dayAfter_5 b  n x1 x2 x3 x4 v) (fun x1 x2 x3 x4 v => p_X4_dayAfter_5 b   n x1 x2 x3 x4 v) ih x1 x2 x3 x4 v hp hQ
        · have hQ := qn (P := gqI Q v) h4 hQ
          have hp := hp.2 h4
          refine g_iload_n 3 dX4_dayAfter_35 rfl ?_
          refine g_aload_n 0 dX4_dayAfter_36 rfl ?_
          refine r_get (.ref (gX E + (b + 47))) f_X4_15_X4 rfl (kb_45 hb) (lt_b hb (by decide)) dX4_dayAfter_37 (fun _ => rfl) ?_
          refine g_iload 4 dX4_dayAfter_40 rfl ?_
          obtain ⟨h5, hp⟩ := hp
          refine g_iald (kb_47 hb) (lt_b hb (by decide)) h5 dX4_dayAfter_42 ?_
          refine g_iconst dX4_dayAfter_43 (1 : Int32) (by decide) ?_
          refine g_iadd dX4_dayAfter_44 ?_
          refine r_mmax mw_X4_66 rfl (Nat.le_of_ble_eq_true rfl) (by omega) dX4_dayAfter_45 ?_
          refine g_istore_n [(3, .int ((if x3 < ((v.1 (b + 47) x4.toNatClampNeg) + (1 : Int32)) then ((v.1 (b + 47) x4.toNatClampNeg) + (1 : Int32)) else x3))), (0, .ref (gX E + (b + 45))), (1, .int x1), (2, .int x2), (4, .int x4)] dX4_dayAfter_48 rfl (by decide) rfl ?_
          refine g_lv (lv' := [(0, .ref (gX E + (b + 45))), (1, .int x1), (2, .int x2), (3, .int ((if x3 < ((v.1 (b + 47) x4.toNatClampNeg) + (1 : Int32)) then ((v.1 (b + 47) x4.toNatClampNeg) + (1 : Int32)) else x3))), (4, .int x4)]) [1, 2, 3, 0, 4] rfl ?_
          exact w_X4_dayAfter_49 b hb hd (fun x1 x2 x3 x4 v => f_X4_dayAfter_5 b  n x1 x2 x3 x4 v) (fun x1 x2 x3 x4 v => p_X4_dayAfter_5 b   n x1 x2 x3 x4 v) ih x1 x2 (if x3 < ((v.1 (b + 47) x4.toNatClampNeg) + (1 : Int32)) then ((v.1 (b + 47) x4.toNatClampNeg) + (1 : Int32)) else x3) x4 v hp hQ
def f_X4_dayAfter_0 (b : Nat) (x1 : Int32) (x2 : Int32) (v : gV) : Int32 := f_X4_dayAfter_5 b  5000 x1 x2 x2 (0 : Int32) v
def p_X4_dayAfter_0 (b : Nat) (x1 : Int32) (x2 : Int32) (v : gV) : Prop := p_X4_dayAfter_5 b   5000 x1 x2 x2 (0 : Int32) v
set_option maxHeartbeats 4000000 in
set_option maxRecDepth 100000 in
theorem w_X4_dayAfter_0 {E : gE} {d : Nat} {Q : gO → gS → Prop} (b : Nat) (hb : isBk b) (hd : 1 ≤ d) (x1 : Int32) (x2 : Int32) (v : gV) (hp : p_X4_dayAfter_0 b   x1 x2 v) (hQ : gqI Q v (f_X4_dayAfter_0 b  x1 x2 v)) : gG E m_X4_dayAfter d Q 0 0 (rS v) 0 [(0, .ref (gX E + (b + 45))), (1, .int x1), (2, .int x2)] [] := by
  refine g_iload_n 2 dX4_dayAfter_0 rfl ?_
  refine g_istore_n [(3, .int x2), (0, .ref (gX E + (b + 45))), (1, .int x1), (2, .int x2)] dX4_dayAfter_1 rfl (by decide) rfl ?_
  refine g_iconst dX4_dayAfter_2 (0 : Int32) (by decide) ?_
  refine g_istore [(4, .int ((0 : Int32))), (3, .int x2), (0, .ref (gX E + (b + 45))), (1, .int x1), (2, .int x2)] dX4_dayAfter_3 (by decide) rfl ?_
  refine g_lv (lv' := [(0, .ref (gX E + (b + 45))), (1, .int x1), (2, .int x2), (3, .int x2), (4, .int ((0 : Int32)))]) [2, 3, 4, 1, 0] rfl ?_
  exact w_X4_dayAfter_5 b hb hd    5000 x1 x2 x2 (0 : Int32) v hp hQ
def f_X4_dayAfter (b : Nat) (x1 : Int32) (x2 : Int32) (v : gV) : Int32 := f_X4_dayAfter_0 b x1 x2 v
def p_X4_dayAfter (b : Nat) (x1 : Int32) (x2 : Int32) (v : gV) : Prop := p_X4_dayAfter_0 b x1 x2 v
theorem c_X4_dayAfter {E : gE} {d : Nat} (b : Nat) (hb : isBk b) (hd : 1 ≤ d) (x1 : Int32) (x2 : Int32) (v : gV) (hp : p_X4_dayAfter b x1 x2 v) : CT E m_X4_dayAfter d 0 0 [.ref (gX E + (b + 45)), .int x1, .int x2] (rS v) (Cq (.inl (some (.int (f_X4_dayAfter b x1 x2 v)))) v) := CT.of ok_X4_dayAfter rfl (Nat.le_of_ble_eq_true rfl) (w_X4_dayAfter_0 b hb hd x1 x2 v hp ⟨rfl, rfl⟩)
def f_X5_isActiveAt_15 (b : Nat) (s0 : Int32) (v : gV) : Int32 := s0
def p_X5_isActiveAt_15 (b : Nat) (s0 : Int32) (v : gV) : Prop := (s0 = 0 ∨ s0 = 1) ∧ (True)
set_option maxHeartbeats 4000000 in
set_option maxRecDepth 100000 in
theorem w_X5_isActiveAt_15 {E : gE} {d : Nat} {Q : gO → gS → Prop} (b : Nat) (hb : isBk b) (hd : 0 ≤ d) (s0 : Int32) (v : gV) (hp : p_X5_isActiveAt_15 b   s0 v) (hQ : gqI Q v (f_X5_isActiveAt_15 b  s0 v)) : gG E m_X5_isActiveAt d Q 0 0 (rS v) 15 [] [.int s0] := by
  obtain ⟨h3, hp⟩ := hp
  exact g_zret rfl (nz h3) dX5_isActiveAt_15 hQ
def f_X5_isActiveAt_0 (b : Nat) (x1 : Int32) (x2 : Int32) (v : gV) : Int32 := if (v.1 (b + 6) x1.toNatClampNeg) ≤ x2 then (f_X5_isActiveAt_15 b  (0 : Int32) v) else (f_X5_isActiveAt_15 b  (1 : Int32) v)
def p_X5_isActiveAt_0 (b : Nat) (x1 : Int32) (x2 : Int32) (v : gV) : Prop := (vp_in x1 8) ∧ ((((v.1 (b + 6) x1.toNatClampNeg) ≤ x2) → (p_X5_isActiveAt_15 b   (0 : Int32) v)) ∧ (¬ ((v.1 (b + 6) x1.toNatClampNeg) ≤ x2) → (p_X5_isActiveAt_15 b   (1 : Int32) v)))
set_option maxHeartbeats 4000000 in
set_option maxRecDepth 100000 in
theorem w_X5_isActiveAt_0 {E : gE} {d : Nat} {Q : gO → gS → Prop} (b : Nat) (hb : isBk b) (hd : 0 ≤ d) (x1 : Int32) (x2 : Int32) (v : gV) (hp : p_X5_isActiveAt_0 b   x1 x2 v) (hQ : gqI Q v (f_X5_isActiveAt_0 b  x1 x2 v)) : gG E m_X5_isActiveAt d Q 0 0 (rS v) 0 [(0, .ref (gX E + (b + 1))), (1, .int x1), (2, .int x2)] [] := by
  refine g_iload_n 2 dX5_isActiveAt_0 rfl ?_
  refine g_aload_n 0 dX5_isActiveAt_1 rfl ?_
  refine r_get (.ref (gX E + (b + 6))) f_X5_21_X5 rfl (kb_1 hb) (lt_b hb (by decide)) dX5_isActiveAt_2 (fun _ => rfl) ?_
  refine g_iload_n 1 dX5_isActiveAt_5 rfl ?_
  obtain ⟨h1, hp⟩ := hp
  refine g_iald (kb_6 hb) (lt_b hb (by decide)) h1 dX5_isActiveAt_6 ?_
  refine g_icmp_ge 14 dX5_isActiveAt_7 (by decide) (fun h2 => ?_) (fun h2 => ?_)
  · have hQ := qp (P := gqI Q v) h2 hQ
    have hp := hp.1 h2
    refine g_iconst dX5_isActiveAt_14 (0 : Int32) (by decide) ?_
    refine g_lv (lv' := []) [] rfl ?_
    exact w_X5_isActiveAt_15 b hb hd    (0 : Int32) v hp hQ
  · have hQ := qn (P := gqI Q v) h2 hQ
    have hp := hp.2 h2
    refine g_iconst dX5_isActiveAt_10 (1 : Int32) (by decide) ?_
    refine g_goto 15 dX5_isActiveAt_11 (by decide) ?_
    refine g_lv (lv' := []) [] rfl ?_
    exact w_X5_isActiveAt_15 b hb hd    (1 : Int32) v hp hQ
def f_X5_isActiveAt (b : Nat) (x1 : Int32) (x2 : Int32) (v : gV) : Int32 := f_X5_isActiveAt_0 b x1 x2 v
def p_X5_isActiveAt (b : Nat) (x1 : Int32) (x2 : Int32) (v : gV) : Prop := p_X5_isActiveAt_0 b x1 x2 v
theorem c_X5_isActiveAt {E : gE} {d : Nat} (b : Nat) (hb : isBk b) (hd : 0 ≤ d) (x1 : Int32) (x2 : Int32) (v : gV) (hp : p_X5_isActiveAt b x1 x2 v) : CT E m_X5_isActiveAt d 0 0 [.ref (gX E + (b + 1)), .int x1, .int x2] (rS v) (Cq (.inl (some (.int (f_X5_isActiveAt b x1 x2 v)))) v) := CT.of ok_X5_isActiveAt rfl (Nat.le_of_ble_eq_true rfl) (w_X5_isActiveAt_0 b hb hd x1 x2 v hp ⟨rfl, rfl⟩)
def f_X5_leftAt_0 (b : Nat) (x1 : Int32) (v : gV) : Int32 := (v.1 (b + 3) x1.toNatClampNeg) - (v.1 (b + 8) x1.toNatClampNeg)
def p_X5_leftAt_0 (b : Nat) (x1 : Int32) (v : gV) : Prop := (vp_in x1 8) ∧ ((vp_in x1 8) ∧ (True))
set_option maxHeartbeats 4000000 in
set_option maxRecDepth 100000 in
theorem w_X5_leftAt_0 {E : gE} {d : Nat} {Q : gO → gS → Prop} (b : Nat) (hb : isBk b) (hd : 0 ≤ d) (x1 : Int32) (v : gV) (hp : p_X5_leftAt_0 b   x1 v) (hQ : gqI Q v (f_X5_leftAt_0 b  x1 v)) : gG E m_X5_leftAt d Q 0 0 (rS v) 0 [(0, .ref (gX E + (b + 1))), (1, .int x1)] [] := by
  refine g_aload_n 0 dX5_leftAt_0 rfl ?_
  refine r_get (.ref (gX E + (b + 3))) f_X5_9_X5 rfl (kb_1 hb) (lt_b hb (by decide)) dX5_leftAt_1 (fun _ => rfl) ?_
  refine g_iload_n 1 dX5_leftAt_4 rfl ?_
  obtain ⟨h1, hp⟩ := hp
  refine g_iald (kb_3 hb) (lt_b hb (by decide)) h1 dX5_leftAt_5 ?_
  refine g_aload_n 0 dX5_leftAt_6 rfl ?_
  refine r_get (.ref (gX E + (b + 8))) f_X5_27_X5 rfl (kb_1 hb) (lt_b hb (by decide)) dX5_leftAt_7 (fun _ => rfl) ?_
  refine g_iload_n 1 dX5_leftAt_10 rfl ?_
  obtain ⟨h2, hp⟩ := hp
  refine g_iald (kb_8 hb) (lt_b hb (by decide)) h2 dX5_leftAt_11 ?_
  refine g_isub dX5_leftAt_12 ?_
  exact g_iret rfl dX5_leftAt_13 hQ
def f_X5_leftAt (b : Nat) (x1 : Int32) (v : gV) : Int32 := f_X5_leftAt_0 b x1 v
def p_X5_leftAt (b : Nat) (x1 : Int32) (v : gV) : Prop := p_X5_leftAt_0 b x1 v
theorem c_X5_leftAt {E : gE} {d : Nat} (b : Nat) (hb : isBk b) (hd : 0 ≤ d) (x1 : Int32) (v : gV) (hp : p_X5_leftAt b x1 v) : CT E m_X5_leftAt d 0 0 [.ref (gX E + (b + 1)), .int x1] (rS v) (Cq (.inl (some (.int (f_X5_leftAt b x1 v)))) v) := CT.of ok_X5_leftAt rfl (Nat.le_of_ble_eq_true rfl) (w_X5_leftAt_0 b hb hd x1 v hp ⟨rfl, rfl⟩)
def f_X5_refundAt_19 (b : Nat)  (v : gV) : Int32 := (0 : Int32)
def p_X5_refundAt_19 (b : Nat)  (v : gV) : Prop := True
set_option maxHeartbeats 4000000 in
set_option maxRecDepth 100000 in
theorem w_X5_refundAt_19 {E : gE} {d : Nat} {Q : gO → gS → Prop} (b : Nat) (hb : isBk b) (hd : 1 ≤ d)  (v : gV) (hp : p_X5_refundAt_19 b    v) (hQ : gqI Q v (f_X5_refundAt_19 b   v)) : gG E m_X5_refundAt d Q 0 0 (rS v) 19 [] [] := by
  refine g_iconst dX5_refundAt_19 (0 : Int32) (by decide) ?_
  exact g_iret rfl dX5_refundAt_20 hQ
def f_X5_refundAt_0 (b : Nat) (x1 : Int32) (x2 : Int32) (v : gV) : Int32 := if (f_X5_isActiveAt b x1 x2 v) = 0 then (f_X5_refundAt_19 b   v) else (if (1 : Int32) ≤ (v.1 (b + 5) x1.toNatClampNeg) then (((v.1 (b + 7) x1.toNatClampNeg) * ((v.1 (b + 6) x1.toNatClampNeg) - x2)) / (v.1 (b + 5) x1.toNatClampNeg)) else (f_X5_refundAt_19 b   v))
def p_X5_refundAt_0 (b : Nat) (x1 : Int32) (x2 : Int32) (v : gV) : Prop := (p_X5_isActiveAt b x1 x2 v) ∧ ((((f_X5_isActiveAt b x1 x2 v) = 0) → (p_X5_refundAt_19 b    v)) ∧ (¬ ((f_X5_isActiveAt b x1 x2 v) = 0) → ((vp_in x1 8) ∧ ((((1 : Int32) ≤ (v.1 (b + 5) x1.toNatClampNeg)) → ((vp_in x1 8) ∧ ((vp_in x1 8) ∧ ((vp_in x1 8) ∧ ((¬ (v.1 (b + 5) x1.toNatClampNeg) = 0) ∧ (True)))))) ∧ (¬ ((1 : Int32) ≤ (v.1 (b + 5) x1.toNatClampNeg)) → (p_X5_refundAt_19 b    v))))))
set_option maxHeartbeats 4000000 in
set_option maxRecDepth 100000 in
theorem w_X5_refundAt_0 {E : gE} {d : Nat} {Q : gO → gS → Prop} (b : Nat) (hb : isBk b) (hd : 1 ≤ d) (x1 : Int32) (x2 : Int32) (v : gV) (hp : p_X5_refundAt_0 b   x1 x2 v) (hQ : gqI Q v (f_X5_refundAt_0 b  x1 x2 v)) : gG E m_X5_refundAt d Q 0 0 (rS v) 0 [(0, .ref (gX E + (b + 1))), (1, .int x1), (2, .int x2)] [] := by
  refine g_aload_n 0 dX5_refundAt_0 rfl ?_
  refine g_iload_n 1 dX5_refundAt_1 rfl ?_
  refine g_iload_n 2 dX5_refundAt_2 rfl ?_
  obtain ⟨h1, hp⟩ := hp
  refine g_callV (rest := []) s_X5_64_X5 rfl (c_X5_isActiveAt (E := E) (d := d - 1) b hb (by omega) x1 x2 v h1) (kb_1 hb) (lt_b hb (by decide)) rfl rfl (Nat.le_of_ble_eq_true rfl) (by omega) (by decide) (by decide) dX5_refundAt_3 (adV ?_) axN
  refine g_if_eq 19 dX5_refundAt_6 (by decide) (fun h2 => ?_) (fun h2 => ?_)
  · have hQ := qp (P := gqI Q v) h2 hQ
    have hp := hp.1 h2
    refine g_lv (lv' := []) [] rfl ?_
    exact w_X5_refundAt_19 b hb hd     v hp hQ
  · have hQ := qn (P := gqI Q v) h2 hQ
    have hp := hp.2 h2
    refine g_aload_n 0 dX5_refundAt_9 rfl ?_
    refine r_get (.ref (gX E + (b + 5))) f_X5_18_X5 rfl (kb_1 hb) (lt_b hb (by decide)) dX5_refundAt_10 (fun _ => rfl) ?_
    refine g_iload_n 1 dX5_refundAt_13 rfl ?_
    obtain ⟨h3, hp⟩ := hp
    refine g_iald (kb_5 hb) (lt_b hb (by decide)) h3 dX5_refundAt_14 ?_
    refine g_iconst dX5_refundAt_15 (1 : Int32) (by decide) ?_
    refine g_icmp_ge 21 dX5_refundAt_16 (by decide) (fun h4 => ?_) (fun h4 => ?_)
    · have hQ := qp (P := gqI Q v) h4 hQ
      have hp := hp.1 h4
      refine g_aload_n 0 dX5_refundAt_21 rfl ?_
      refine r_get (.ref (gX E + (b + 7))) f_X5_24_X5 rfl (kb_1 hb) (lt_b hb (by decide)) dX5_refundAt_22 (fun _ => rfl) ?_
      refine g_iload_n 1 dX5_refundAt_25 rfl ?_
      obtain ⟨h5, hp⟩ := hp
      refine g_iald (kb_7 hb) (lt_b hb (by decide)) h5 dX5_refundAt_26 ?_
      refine g_aload_n 0 dX5_refundAt_27 rfl ?_
      refine r_get (.ref (gX E + (b + 6))) f_X5_21_X5 rfl (kb_1 hb) (lt_b hb (by decide)) dX5_refundAt_28 (fun _ => rfl) ?_
      refine g_iload_n 1 dX5_refundAt_31 rfl ?_
      obtain ⟨h6, hp⟩ := hp
      refine g_iald (kb_6 hb) (lt_b hb (by decide)) h6 dX5_refundAt_32 ?_
      refine g_iload_n 2 dX5_refundAt_33 rfl ?_
      refine g_isub dX5_refundAt_34 ?_
      refine g_imul dX5_refundAt_35 ?_
      refine g_aload_n 0 dX5_refundAt_36 rfl ?_
      refine r_get (.ref (gX E + (b + 5))) f_X5_18_X5 rfl (kb_1 hb) (lt_b hb (by decide)) dX5_refundAt_37 (fun _ => rfl) ?_
      refine g_iload_n 1 dX5_refundAt_40 rfl ?_
      obtain ⟨h7, hp⟩ := hp
      refine g_iald (kb_5 hb) (lt_b hb (by decide)) h7 dX5_refundAt_41 ?_
      obtain ⟨h8, hp⟩ := hp
      refine g_idiv dX5_refundAt_42 h8 ?_
      exact g_iret rfl dX5_refundAt_43 hQ
    · have hQ := qn (P := gqI Q v) h4 hQ
      have hp := hp.2 h4
      refine g_lv (lv' := []) [] rfl ?_
      exact w_X5_refundAt_19 b hb hd     v hp hQ
def f_X5_refundAt (b : Nat) (x1 : Int32) (x2 : Int32) (v : gV) : Int32 := f_X5_refundAt_0 b x1 x2 v
def p_X5_refundAt (b : Nat) (x1 : Int32) (x2 : Int32) (v : gV) : Prop := p_X5_refundAt_0 b x1 x2 v
theorem c_X5_refundAt {E : gE} {d : Nat} (b : Nat) (hb : isBk b) (hd : 1 ≤ d) (x1 : Int32) (x2 : Int32) (v : gV) (hp : p_X5_refundAt b x1 x2 v) : CT E m_X5_refundAt d 0 0 [.ref (gX E + (b + 1)), .int x1, .int x2] (rS v) (Cq (.inl (some (.int (f_X5_refundAt b x1 x2 v)))) v) := CT.of ok_X5_refundAt rfl (Nat.le_of_ble_eq_true rfl) (w_X5_refundAt_0 b hb hd x1 x2 v hp ⟨rfl, rfl⟩)
def f_X5_isAhead_103 (b : Nat) (s0 : Int32) (v : gV) : Int32 := s0
def p_X5_isAhead_103 (b : Nat) (s0 : Int32) (v : gV) : Prop := (s0 = 0 ∨ s0 = 1) ∧ (True)
set_option maxHeartbeats 4000000 in
set_option maxRecDepth 100000 in
theorem w_X5_isAhead_103 {E : gE} {d : Nat} {Q : gO → gS → Prop} (b : Nat) (hb : isBk b) (hd : 0 ≤ d) (s0 : Int32) (v : gV) (hp : p_X5_isAhead_103 b   s0 v) (hQ : gqI Q v (f_X5_isAhead_103 b  s0 v)) : gG E m_X5_isAhead d Q 0 0 (rS v) 103 [] [.int s0] := by
  obtain ⟨h12, hp⟩ := hp
  exact g_zret rfl (nz h12) dX5_isAhead_103 hQ
def f_X5_isAhead_82 (b : Nat) (s0 : Int32) (v : gV) : Int32 := s0
def p_X5_isAhead_82 (b : Nat) (s0 : Int32) (v : gV) : Prop := (s0 = 0 ∨ s0 = 1) ∧ (True)
set_option maxHeartbeats 4000000 in
set_option maxRecDepth 100000 in
theorem w_X5_isAhead_82 {E : gE} {d : Nat} {Q : gO → gS → Prop} (b : Nat) (hb : isBk b) (hd : 0 ≤ d) (s0 : Int32) (v : gV) (hp : p_X5_isAhead_82 b   s0 v) (hQ : gqI Q v (f_X5_isAhead_82 b  s0 v)) : gG E m_X5_isAhead d Q 0 0 (rS v) 82 [] [.int s0] := by
  obtain ⟨h16, hp⟩ := hp
  exact g_zret rfl (nz h16) dX5_isAhead_82 hQ
def f_X5_isAhead_46 (b : Nat) (s0 : Int32) (v : gV) : Int32 := s0
def p_X5_isAhead_46 (b : Nat) (s0 : Int32) (v : gV) : Prop := (s0 = 0 ∨ s0 = 1) ∧ (True)
set_option maxHeartbeats 4000000 in
set_option maxRecDepth 100000 in
theorem w_X5_isAhead_46 {E : gE} {d : Nat} {Q : gO → gS → Prop} (b : Nat) (hb : isBk b) (hd : 0 ≤ d) (s0 : Int32) (v : gV) (hp : p_X5_isAhead_46 b   s0 v) (hQ : gqI Q v (f_X5_isAhead_46 b  s0 v)) : gG E m_X5_isAhead d Q 0 0 (rS v) 46 [] [.int s0] := by
  obtain ⟨h18, hp⟩ := hp
  exact g_zret rfl (nz h18) dX5_isAhead_46 hQ
def f_X5_isAhead_0 (b : Nat) (x1 : Int32) (x2 : Int32) (v : gV) : Int32 := if ((v.1 (b + 3) x1.toNatClampNeg) * (v.1 (b + 4) x1.toNatClampNeg)) = ((v.1 (b + 3) x2.toNatClampNeg) * (v.1 (b + 4) x2.toNatClampNeg)) then (if (v.1 (b + 7) x1.toNatClampNeg) = (v.1 (b + 7) x2.toNatClampNeg) then (if (v.1 (b + 2) x2.toNatClampNeg) ≤ (v.1 (b + 2) x1.toNatClampNeg) then (f_X5_isAhead_103 b  (0 : Int32) v) else (f_X5_isAhead_103 b  (1 : Int32) v)) else (if (v.1 (b + 7) x1.toNatClampNeg) ≤ (v.1 (b + 7) x2.toNatClampNeg) then (f_X5_isAhead_82 b  (0 : Int32) v) else (f_X5_isAhead_82 b  (1 : Int32) v))) else (if ((v.1 (b + 3) x1.toNatClampNeg) * (v.1 (b + 4) x1.toNatClampNeg)) ≤ ((v.1 (b + 3) x2.toNatClampNeg) * (v.1 (b + 4) x2.toNatClampNeg)) then (f_X5_isAhead_46 b  (0 : Int32) v) else (f_X5_isAhead_46 b  (1 : Int32) v))
def p_X5_isAhead_0 (b : Nat) (x1 : Int32) (x2 : Int32) (v : gV) : Prop := (vp_in x1 8) ∧ ((vp_in x1 8) ∧ ((vp_in x2 8) ∧ ((vp_in x2 8) ∧ (((((v.1 (b + 3) x1.toNatClampNeg) * (v.1 (b + 4) x1.toNatClampNeg)) = ((v.1 (b + 3) x2.toNatClampNeg) * (v.1 (b + 4) x2.toNatClampNeg))) → ((vp_in x1 8) ∧ ((vp_in x2 8) ∧ ((((v.1 (b + 7) x1.toNatClampNeg) = (v.1 (b + 7) x2.toNatClampNeg)) → ((vp_in x1 8) ∧ ((vp_in x2 8) ∧ ((((v.1 (b + 2) x2.toNatClampNeg) ≤ (v.1 (b + 2) x1.toNatClampNeg)) → (p_X5_isAhead_103 b   (0 : Int32) v)) ∧ (¬ ((v.1 (b + 2) x2.toNatClampNeg) ≤ (v.1 (b + 2) x1.toNatClampNeg)) → (p_X5_isAhead_103 b   (1 : Int32) v)))))) ∧ (¬ ((v.1 (b + 7) x1.toNatClampNeg) = (v.1 (b + 7) x2.toNatClampNeg)) → ((vp_in x1 8) ∧ ((vp_in x2 8) ∧ ((((v.1 (b + 7) x1.toNatClampNeg) ≤ (v.1 (b + 7) x2.toNatClampNeg)) → (p_X5_isAhead_82 b   (0 : Int32) v)) ∧ (¬ ((v.1 (b + 7) x1.toNatClampNeg) ≤ (v.1 (b + 7) x2.toNatClampNeg)) → (p_X5_isAhead_82 b   (1 : Int32) v)))))))))) ∧ (¬ (((v.1 (b + 3) x1.toNatClampNeg) * (v.1 (b + 4) x1.toNatClampNeg)) = ((v.1 (b + 3) x2.toNatClampNeg) * (v.1 (b + 4) x2.toNatClampNeg))) → (((((v.1 (b + 3) x1.toNatClampNeg) * (v.1 (b + 4) x1.toNatClampNeg)) ≤ ((v.1 (b + 3) x2.toNatClampNeg) * (v.1 (b + 4) x2.toNatClampNeg))) → (p_X5_isAhead_46 b   (0 : Int32) v)) ∧ (¬ (((v.1 (b + 3) x1.toNatClampNeg) * (v.1 (b + 4) x1.toNatClampNeg)) ≤ ((v.1 (b + 3) x2.toNatClampNeg) * (v.1 (b + 4) x2.toNatClampNeg))) → (p_X5_isAhead_46 b   (1 : Int32) v))))))))
set_option maxHeartbeats 4000000 in
set_option maxRecDepth 100000 in
theorem w_X5_isAhead_0 {E : gE} {d : Nat} {Q : gO → gS → Prop} (b : Nat) (hb : isBk b) (hd : 0 ≤ d) (x1 : Int32) (x2 : Int32) (v : gV) (hp : p_X5_isAhead_0 b   x1 x2 v) (hQ : gqI Q v (f_X5_isAhead_0 b  x1 x2 v)) : gG E m_X5_isAhead d Q 0 0 (rS v) 0 [(0, .ref (gX E + (b + 1))), (1, .int x1), (2, .int x2)] [] := by
  refine g_aload_n 0 dX5_isAhead_0 rfl ?_
  refine r_get (.ref (gX E + (b + 3))) f_X5_9_X5 rfl (kb_1 hb) (lt_b hb (by decide)) dX5_isAhead_1 (fun _ => rfl) ?_
  refine g_iload_n 1 dX5_isAhead_4 rfl ?_
  obtain ⟨h1, hp⟩ := hp
  refine g_iald (kb_3 hb) (lt_b hb (by decide)) h1 dX5_isAhead_5 ?_
  refine g_aload_n 0 dX5_isAhead_6 rfl ?_
  refine r_get (.ref (gX E + (b + 4))) f_X5_15_X5 rfl (kb_1 hb) (lt_b hb (by decide)) dX5_isAhead_7 (fun _ => rfl) ?_
  refine g_iload_n 1 dX5_isAhead_10 rfl ?_
  obtain ⟨h2, hp⟩ := hp
  refine g_iald (kb_4 hb) (lt_b hb (by decide)) h2 dX5_isAhead_11 ?_
  refine g_imul dX5_isAhead_12 ?_
  refine g_istore_n [(3, .int ((v.1 (b + 3) x1.toNatClampNeg) * (v.1 (b + 4) x1.toNatClampNeg))), (0, .ref (gX E + (b + 1))), (1, .int x1), (2, .int x2)] dX5_isAhead_13 rfl (by decide) rfl ?_
  refine g_aload_n 1 dX5_isAhead_14 rfl ?_
  refine r_get (.ref (gX E + (b + 3))) f_X5_9_X5 rfl (kb_1 hb) (lt_b hb (by decide)) dX5_isAhead_15 (fun _ => rfl) ?_
  refine g_iload_n 3 dX5_isAhead_18 rfl ?_
  obtain ⟨h3, hp⟩ := hp
  refine g_iald (kb_3 hb) (lt_b hb (by decide)) h3 dX5_isAhead_19 ?_
  refine g_aload_n 1 dX5_isAhead_20 rfl ?_
  refine r_get (.ref (gX E + (b + 4))) f_X5_15_X5 rfl (kb_1 hb) (lt_b hb (by decide)) dX5_isAhead_21 (fun _ => rfl) ?_
  refine g_iload_n 3 dX5_isAhead_24 rfl ?_
  obtain ⟨h4, hp⟩ := hp
  refine g_iald (kb_4 hb) (lt_b hb (by decide)) h4 dX5_isAhead_25 ?_
  refine g_imul dX5_isAhead_26 ?_
  refine g_istore [(4, .int ((v.1 (b + 3) x2.toNatClampNeg) * (v.1 (b + 4) x2.toNatClampNeg))), (3, .int ((v.1 (b + 3) x1.toNatClampNeg) * (v.1 (b + 4) x1.toNatClampNeg))), (0, .ref (gX E + (b + 1))), (1, .int x1), (2, .int x2)] dX5_isAhead_27 (by decide) rfl ?_
  refine g_iload_n 1 dX5_isAhead_29 rfl ?_
  refine g_iload 0 dX5_isAhead_30 rfl ?_
  refine g_icmp_eq 47 dX5_isAhead_32 (by decide) (fun h5 => ?_) (fun h5 => ?_)
  · have hQ := qp (P := gqI Q v) h5 hQ
    have hp := hp.1 h5
    refine g_aload_n 2 dX5_isAhead_47 rfl ?_
    refine r_get (.ref (gX E + (b + 7))) f_X5_24_X5 rfl (kb_1 hb) (lt_b hb (by decide)) dX5_isAhead_48 (fun _ => rfl) ?_
    refine g_iload_n 3 dX5_isAhead_51 rfl ?_
    obtain ⟨h6, hp⟩ := hp
    refine g_iald (kb_7 hb) (lt_b hb (by decide)) h6 dX5_isAhead_52 ?_
    refine g_aload_n 2 dX5_isAhead_53 rfl ?_
    refine r_get (.ref (gX E + (b + 7))) f_X5_24_X5 rfl (kb_1 hb) (lt_b hb (by decide)) dX5_isAhead_54 (fun _ => rfl) ?_
    refine g_iload_n 4 dX5_isAhead_57 rfl ?_
    obtain ⟨h7, hp⟩ := hp
    refine g_iald (kb_7 hb) (lt_b hb (by decide)) h7 dX5_isAhead_58 ?_
    refine g_icmp_eq 83 dX5_isAhead_59 (by decide) (fun h8 => ?_) (fun h8 => ?_)
    · have hQ := qp (P := gqI Q v) h8 hQ
      have hp := hp.1 h8
      refine g_aload_n 2 dX5_isAhead_83 rfl ?_
      refine r_get (.ref (gX E + (b + 2))) f_X5_68_X5 rfl (kb_1 hb) (lt_b hb (by decide)) dX5_isAhead_84 (fun _ => rfl) ?_
      refine g_iload_n 3 dX5_isAhead_87 rfl ?_
      obtain ⟨h9, hp⟩ := hp
      refine g_iald (kb_2 hb) (lt_b hb (by decide)) h9 dX5_isAhead_88 ?_
      refine g_aload_n 2 dX5_isAhead_89 rfl ?_
      refine r_get (.ref (gX E + (b + 2))) f_X5_68_X5 rfl (kb_1 hb) (lt_b hb (by decide)) dX5_isAhead_90 (fun _ => rfl) ?_
      refine g_iload_n 4 dX5_isAhead_93 rfl ?_
      obtain ⟨h10, hp⟩ := hp
      refine g_iald (kb_2 hb) (lt_b hb (by decide)) h10 dX5_isAhead_94 ?_
      refine g_icmp_ge 102 dX5_isAhead_95 (by decide) (fun h11 => ?_) (fun h11 => ?_)
      · have hQ := qp (P := gqI Q v) h11 hQ
        have hp := hp.1 h11
        refine g_iconst dX5_isAhead_102 (0 : Int32) (by decide) ?_
        refine g_lv (lv' := []) [] rfl ?_
        exact w_X5_isAhead_103 b hb hd    (0 : Int32) v hp hQ
      · have hQ := qn (P := gqI Q v) h11 hQ
        have hp := hp.2 h11
        refine g_iconst dX5_isAhead_98 (1 : Int32) (by decide) ?_
        refine g_goto 103 dX5_isAhead_99 (by decide) ?_
        refine g_lv (lv' := []) [] rfl ?_
        exact w_X5_isAhead_103 b hb hd    (1 : Int32) v hp hQ
    · have hQ := qn (P := gqI Q v) h8 hQ
      have hp := hp.2 h8
      refine g_aload_n 2 dX5_isAhead_62 rfl ?_
      refine r_get (.ref (gX E + (b + 7))) f_X5_24_X5 rfl (kb_1 hb) (lt_b hb (by decide)) dX5_isAhead_63 (fun _ => rfl) ?_
      refine g_iload_n 3 dX5_isAhead_66 rfl ?_
      obtain ⟨h13, hp⟩ := hp
      refine g_iald (kb_7 hb) (lt_b hb (by decide)) h13 dX5_isAhead_67 ?_
      refine g_aload_n 2 dX5_isAhead_68 rfl ?_
      refine r_get (.ref (gX E + (b + 7))) f_X5_24_X5 rfl (kb_1 hb) (lt_b hb (by decide)) dX5_isAhead_69 (fun _ => rfl) ?_
      refine g_iload_n 4 dX5_isAhead_72 rfl ?_
      obtain ⟨h14, hp⟩ := hp
      refine g_iald (kb_7 hb) (lt_b hb (by decide)) h14 dX5_isAhead_73 ?_
      refine g_icmp_le 81 dX5_isAhead_74 (by decide) (fun h15 => ?_) (fun h15 => ?_)
      · have hQ := qp (P := gqI Q v) h15 hQ
        have hp := hp.1 h15
        refine g_iconst dX5_isAhead_81 (0 : Int32) (by decide) ?_
        refine g_lv (lv' := []) [] rfl ?_
        exact w_X5_isAhead_82 b hb hd    (0 : Int32) v hp hQ
      · have hQ := qn (P := gqI Q v) h15 hQ
        have hp := hp.2 h15
        refine g_iconst dX5_isAhead_77 (1 : Int32) (by decide) ?_
        refine g_goto 82 dX5_isAhead_78 (by decide) ?_
        refine g_lv (lv' := []) [] rfl ?_
        exact w_X5_isAhead_82 b hb hd    (1 : Int32) v hp hQ
  · have hQ := qn (P := gqI Q v) h5 hQ
    have hp := hp.2 h5
    refine g_iload_n 1 dX5_isAhead_35 rfl ?_
    refine g_iload 0 dX5_isAhead_36 rfl ?_
    refine g_icmp_le 45 dX5_isAhead_38 (by decide) (fun h17 => ?_) (fun h17 => ?_)
    · have hQ := qp (P := gqI Q v) h17 hQ
      have hp := hp.1 h17
      refine g_iconst dX5_isAhead_45 (0 : Int32) (by decide) ?_
      refine g_lv (lv' := []) [] rfl ?_
      exact w_X5_isAhead_46 b hb hd    (0 : Int32) v hp hQ
    · have hQ := qn (P := gqI Q v) h17 hQ
      have hp := hp.2 h17
      refine g_iconst dX5_isAhead_41 (1 : Int32) (by decide) ?_
      refine g_goto 46 dX5_isAhead_42 (by decide) ?_
      refine g_lv (lv' := []) [] rfl ?_
      exact w_X5_isAhead_46 b hb hd    (1 : Int32) v hp hQ
def f_X5_isAhead (b : Nat) (x1 : Int32) (x2 : Int32) (v : gV) : Int32 := f_X5_isAhead_0 b x1 x2 v
def p_X5_isAhead (b : Nat) (x1 : Int32) (x2 : Int32) (v : gV) : Prop := p_X5_isAhead_0 b x1 x2 v
theorem c_X5_isAhead {E : gE} {d : Nat} (b : Nat) (hb : isBk b) (hd : 0 ≤ d) (x1 : Int32) (x2 : Int32) (v : gV) (hp : p_X5_isAhead b x1 x2 v) : CT E m_X5_isAhead d 0 0 [.ref (gX E + (b + 1)), .int x1, .int x2] (rS v) (Cq (.inl (some (.int (f_X5_isAhead b x1 x2 v)))) v) := CT.of ok_X5_isAhead rfl (Nat.le_of_ble_eq_true rfl) (w_X5_isAhead_0 b hb hd x1 x2 v hp ⟨rfl, rfl⟩)
def f_X5_countOutcomes_30 (b : Nat) (K5 : Int32 → Int64 → Int32 → gV → Int64)  (x1 : Int32) (x2 : Int64) (x4 : Int32) (v : gV) : Int64 := K5 x1 x2 (x4 + 1) v
def p_X5_countOutcomes_30 (b : Nat) (K5 : Int32 → Int64 → Int32 → gV → Int64)  (PK5 : Int32 → Int64 → Int32 → gV → Prop)  (x1 : Int32) (x2 : Int64) (x4 : Int32) (v : gV) : Prop := PK5 x1 x2 (x4 + 1) v
set_option maxHeartbeats 4000000 in
set_option maxRecDepth 100000 in
theorem w_X5_countOutcomes_30 {E : gE} {d : Nat} {Q : gO → gS → Prop} (b : Nat) (hb : isBk b) (hd : 1 ≤ d) (K5 : Int32 → Int64 → Int32 → gV → Int64)  (PK5 : Int32 → Int64 → Int32 → gV → Prop)  (hK5 : ∀ (x1 : Int32) (x2 : Int64) (x4 : Int32) (v : gV), PK5 x1 x2 x4 v → gqJ Q v (K5 x1 x2 x4 v) → gG E m_X5_countOutcomes d Q 0 0 (rS v) 5 [(0, .ref (gX E + (b + 1))), (1, .int x1), (2, .long x2), (4, .int x4)] [])  (x1 : Int32) (x2 : Int64) (x4 : Int32) (v : gV) (hp : p_X5_countOutcomes_30 b K5 PK5 x1 x2 x4 v) (hQ : gqJ Q v (f_X5_countOutcomes_30 b K5 x1 x2 x4 v)) : gG E m_X5_countOutcomes d Q 0 0 (rS v) 30 [(0, .ref (gX E + (b + 1))), (1, .int x1), (2, .long x2), (4, .int x4)] [] := by
  refine g_iinc 3 (x4 + 1) [(4, .int (x4 + 1)), (0, .ref (gX E + (b + 1))), (1, .int x1), (2, .long x2)] dX5_countOutcomes_30 rfl rfl (by decide) rfl ?_
  refine g_goto 5 dX5_countOutcomes_33 (by decide) ?_
  refine g_lv (lv' := [(0, .ref (gX E + (b + 1))), (1, .int x1), (2, .long x2), (4, .int (x4 + 1))]) [1, 2, 3, 0] rfl ?_
  exact hK5 x1 x2 (x4 + 1) v hp hQ
def f_X5_countOutcomes_5 (b : Nat) : Nat → Int32 → Int64 → Int32 → gV → Int64
  | 0, _, _, _, v => 0
  | n + 1, x1, x2, x4, v => if (v.1 (b + 1) 1) ≤ x4 then x2 else (if (f_X5_isActiveAt b x4 x1 v) = 0 then (f_X5_countOutcomes_30 b (fun x1 x2 x4 v => f_X5_countOutcomes_5 b  n x1 x2 x4 v) x1 x2 x4 v) else (f_X5_countOutcomes_30 b (fun x1 x2 x4 v => f_X5_countOutcomes_5 b  n x1 x2 x4 v) x1 (x2 * (8 : Int64)) x4 v))
def p_X5_countOutcomes_5 (b : Nat) : Nat → Int32 → Int64 → Int32 → gV → Prop
  | 0, _, _, _, _ => False
  | n + 1, x1, x2, x4, v => (((v.1 (b + 1) 1) ≤ x4) → (True)) ∧ (¬ ((v.1 (b + 1) 1) ≤ x4) → ((p_X5_isActiveAt b x4 x1 v) ∧ ((((f_X5_isActiveAt b x4 x1 v) = 0) → (p_X5_countOutcomes_30 b (fun x1 x2 x4 v => f_X5_countOutcomes_5 b  n x1 x2 x4 v) (fun x1 x2 x4 v => p_X5_countOutcomes_5 b   n x1 x2 x4 v) x1 x2 x4 v)) ∧ (¬ ((f_X5_isActiveAt b x4 x1 v) = 0) → (p_X5_countOutcomes_30 b (fun x1 x2 x4 v => f_X5_countOutcomes_5 b  n x1 x2 x4 v) (fun x1 x2 x4 v => p_X5_countOutcomes_5 b   n x1 x2 x4 v) x1 (x2 * (8 : Int64)) x4 v)))))
set_option maxHeartbeats 4000000 in
set_option maxRecDepth 100000 in
theorem w_X5_countOutcomes_5 {E : gE} {d : Nat} {Q : gO → gS → Prop} (b : Nat) (hb : isBk b) (hd : 1 ≤ d) : ∀ (n : Nat) (x1 : Int32) (x2 : Int64) (x4 : Int32) (v : gV), p_X5_countOutcomes_5 b   n x1 x2 x4 v → gqJ Q v (f_X5_countOutcomes_5 b  n x1 x2 x4 v) → gG E m_X5_countOutcomes d Q 0 0 (rS v) 5 [(0, .ref (gX E + (b + 1))), (1, .int x1), (2, .long x2), (4, .int x4)] [] := by
  intro n
  induction n with
  | zero => intro x1 x2 x4 v hp; exact hp.elim
  | succ n ih =>
    intro x1 x2 x4 v hp hQ
    refine g_iload 3 dX5_countOutcomes_5 rfl ?_
    refine g_aload_n 0 dX5_countOutcomes_7 rfl ?_
    refine r_get (.int (v.1 (b + 1) 1)) f_X5_71_X5 rfl (kb_1 hb) (lt_b hb (by decide)) dX5_countOutcomes_8 (fun _ => rfl) ?_
    refine g_icmp_ge 36 dX5_countOutcomes_11 (by decide) (fun h1 => ?_) (fun h1 => ?_)
    · have hQ := qp (P := gqJ Q v) h1 hQ
      have hp := hp.1 h1
      refine g_lload_n 2 dX5_countOutcomes_36 rfl ?_
      exact g_lret rfl dX5_countOutcomes_37 hQ
    · have hQ := qn (P := gqJ Q v) h1 hQ
      have hp := hp.2 h1
      refine g_aload_n 0 dX5_countOutcomes_14 rfl ?_
      refine g_iload 3 dX5_countOutcomes_15 rfl ?_
      refine g_iload_n 1 dX5_countOutcomes_17 rfl ?_
      obtain ⟨h2, hp⟩ := hp
      refine g_callV (rest := []) s_X5_64_X5 rfl (c_X5_isActiveAt (E := E) (d := d - 1) b hb (by omega) x4 x1 v h2) (kb_1 hb) (lt_b hb (by decide)) rfl rfl (Nat.le_of_ble_eq_true rfl) (by omega) (by decide) (by decide) dX5_countOutcomes_18 (adV ?_) axN
      refine g_if_eq 30 dX5_countOutcomes_21 (by decide) (fun h3 => ?_) (fun h3 => ?_)
      · have hQ := qp (P := gqJ Q v) h3 hQ
        have hp := hp.1 h3
        exact w_X5_countOutcomes_30 b hb hd (fun x1 x2 x4 v => f_X5_countOutcomes_5 b  n x1 x2 x4 v) (fun x1 x2 x4 v => p_X5_countOutcomes_5 b   n x1 x2 x4 v) ih x1 x2 x4 v hp hQ
      · have hQ := qn (P := gqJ Q v) h3 hQ
        have hp := hp.2 h3
        refine g_lload_n 2 dX5_countOutcomes_24 rfl ?_
        refine r_ldc2 (8 : Int64) k_X5_75 rfl dX5_countOutcomes_25 ?_
        refine g_lmul dX5_countOutcomes_28 ?_
        refine g_lstore_n [(2, .long (x2 * (8 : Int64))), (0, .ref (gX E + (b + 1))), (1, .int x1), (4, .int x4)] dX5_countOutcomes_29 rfl (by decide) rfl ?_
        refine g_lv (lv' := [(0, .ref (gX E + (b + 1))), (1, .int x1), (2, .long (x2 * (8 : Int64))), (4, .int x4)]) [1, 2, 0, 3] rfl ?_
        exact w_X5_countOutcomes_30 b hb hd (fun x1 x2 x4 v => f_X5_countOutcomes_5 b  n x1 x2 x4 v) (fun x1 x2 x4 v => p_X5_countOutcomes_5 b   n x1 x2 x4 v) ih x1 (x2 * (8 : Int64)) x4 v hp hQ
def f_X5_countOutcomes_0 (b : Nat) (x1 : Int32) (v : gV) : Int64 := f_X5_countOutcomes_5 b  5000 x1 (1 : Int64) (0 : Int32) v
def p_X5_countOutcomes_0 (b : Nat) (x1 : Int32) (v : gV) : Prop := p_X5_countOutcomes_5 b   5000 x1 (1 : Int64) (0 : Int32) v
set_option maxHeartbeats 4000000 in
set_option maxRecDepth 100000 in
theorem w_X5_countOutcomes_0 {E : gE} {d : Nat} {Q : gO → gS → Prop} (b : Nat) (hb : isBk b) (hd : 1 ≤ d) (x1 : Int32) (v : gV) (hp : p_X5_countOutcomes_0 b   x1 v) (hQ : gqJ Q v (f_X5_countOutcomes_0 b  x1 v)) : gG E m_X5_countOutcomes d Q 0 0 (rS v) 0 [(0, .ref (gX E + (b + 1))), (1, .int x1)] [] := by
  refine g_lconst dX5_countOutcomes_0 (1 : Int64) (by decide) ?_
  refine g_lstore_n [(2, .long ((1 : Int64))), (0, .ref (gX E + (b + 1))), (1, .int x1)] dX5_countOutcomes_1 rfl (by decide) rfl ?_
  refine g_iconst dX5_countOutcomes_2 (0 : Int32) (by decide) ?_
  refine g_istore [(4, .int ((0 : Int32))), (2, .long ((1 : Int64))), (0, .ref (gX E + (b + 1))), (1, .int x1)] dX5_countOutcomes_3 (by decide) rfl ?_
  refine g_lv (lv' := [(0, .ref (gX E + (b + 1))), (1, .int x1), (2, .long ((1 : Int64))), (4, .int ((0 : Int32)))]) [2, 3, 1, 0] rfl ?_
  exact w_X5_countOutcomes_5 b hb hd    5000 x1 (1 : Int64) (0 : Int32) v hp hQ
def f_X5_countOutcomes (b : Nat) (x1 : Int32) (v : gV) : Int64 := f_X5_countOutcomes_0 b x1 v
def p_X5_countOutcomes (b : Nat) (x1 : Int32) (v : gV) : Prop := p_X5_countOutcomes_0 b x1 v
theorem c_X5_countOutcomes {E : gE} {d : Nat} (b : Nat) (hb : isBk b) (hd : 1 ≤ d) (x1 : Int32) (v : gV) (hp : p_X5_countOutcomes b x1 v) : CT E m_X5_countOutcomes d 0 0 [.ref (gX E + (b + 1)), .int x1] (rS v) (Cq (.inl (some (.long (f_X5_countOutcomes b x1 v)))) v) := CT.of ok_X5_countOutcomes rfl (Nat.le_of_ble_eq_true rfl) (w_X5_countOutcomes_0 b hb hd x1 v hp ⟨rfl, rfl⟩)
def f_X5_mostLoss_39 (b : Nat) (K4 : Int32 → Int32 → Int32 → gV → Int32)  (x1 : Int32) (x2 : Int32) (x3 : Int32) (v : gV) : Int32 := K4 x1 x2 (x3 + 1) v
def p_X5_mostLoss_39 (b : Nat) (K4 : Int32 → Int32 → Int32 → gV → Int32)  (PK4 : Int32 → Int32 → Int32 → gV → Prop)  (x1 : Int32) (x2 : Int32) (x3 : Int32) (v : gV) : Prop := PK4 x1 x2 (x3 + 1) v
set_option maxHeartbeats 4000000 in
set_option maxRecDepth 100000 in
theorem w_X5_mostLoss_39 {E : gE} {d : Nat} {Q : gO → gS → Prop} (b : Nat) (hb : isBk b) (hd : 1 ≤ d) (K4 : Int32 → Int32 → Int32 → gV → Int32)  (PK4 : Int32 → Int32 → Int32 → gV → Prop)  (hK4 : ∀ (x1 : Int32) (x2 : Int32) (x3 : Int32) (v : gV), PK4 x1 x2 x3 v → gqI Q v (K4 x1 x2 x3 v) → gG E m_X5_mostLoss d Q 0 0 (rS v) 4 [(0, .ref (gX E + (b + 1))), (1, .int x1), (2, .int x2), (3, .int x3)] [])  (x1 : Int32) (x2 : Int32) (x3 : Int32) (v : gV) (hp : p_X5_mostLoss_39 b K4 PK4 x1 x2 x3 v) (hQ : gqI Q v (f_X5_mostLoss_39 b K4 x1 x2 x3 v)) : gG E m_X5_mostLoss d Q 0 0 (rS v) 39 [(0, .ref (gX E + (b + 1))), (1, .int x1), (2, .int x2), (3, .int x3)] [] := by
  refine g_iinc 3 (x3 + 1) [(3, .int (x3 + 1)), (0, .ref (gX E + (b + 1))), (1, .int x1), (2, .int x2)] dX5_mostLoss_39 rfl rfl (by decide) rfl ?_
  refine g_goto 4 dX5_mostLoss_42 (by decide) ?_
  refine g_lv (lv' := [(0, .ref (gX E + (b + 1))), (1, .int x1), (2, .int x2), (3, .int (x3 + 1))]) [1, 2, 3, 0] rfl ?_
  exact hK4 x1 x2 (x3 + 1) v hp hQ
def f_X5_mostLoss_4 (b : Nat) : Nat → Int32 → Int32 → Int32 → gV → Int32
  | 0, _, _, _, v => 0
  | n + 1, x1, x2, x3, v => if (v.1 (b + 1) 1) ≤ x3 then x2 else (if (f_X5_isActiveAt b x3 x1 v) = 0 then (f_X5_mostLoss_39 b (fun x1 x2 x3 v => f_X5_mostLoss_4 b  n x1 x2 x3 v) x1 x2 x3 v) else (if (v.1 (b + 4) x3.toNatClampNeg) ≤ 0 then (f_X5_mostLoss_39 b (fun x1 x2 x3 v => f_X5_mostLoss_4 b  n x1 x2 x3 v) x1 x2 x3 v) else (f_X5_mostLoss_39 b (fun x1 x2 x3 v => f_X5_mostLoss_4 b  n x1 x2 x3 v) x1 (x2 + (v.1 (b + 3) x3.toNatClampNeg)) x3 v)))
def p_X5_mostLoss_4 (b : Nat) : Nat → Int32 → Int32 → Int32 → gV → Prop
  | 0, _, _, _, _ => False
  | n + 1, x1, x2, x3, v => (((v.1 (b + 1) 1) ≤ x3) → (True)) ∧ (¬ ((v.1 (b + 1) 1) ≤ x3) → ((p_X5_isActiveAt b x3 x1 v) ∧ ((((f_X5_isActiveAt b x3 x1 v) = 0) → (p_X5_mostLoss_39 b (fun x1 x2 x3 v => f_X5_mostLoss_4 b  n x1 x2 x3 v) (fun x1 x2 x3 v => p_X5_mostLoss_4 b   n x1 x2 x3 v) x1 x2 x3 v)) ∧ (¬ ((f_X5_isActiveAt b x3 x1 v) = 0) → ((vp_in x3 8) ∧ ((((v.1 (b + 4) x3.toNatClampNeg) ≤ 0) → (p_X5_mostLoss_39 b (fun x1 x2 x3 v => f_X5_mostLoss_4 b  n x1 x2 x3 v) (fun x1 x2 x3 v => p_X5_mostLoss_4 b   n x1 x2 x3 v) x1 x2 x3 v)) ∧ (¬ ((v.1 (b + 4) x3.toNatClampNeg) ≤ 0) → ((vp_in x3 8) ∧ (p_X5_mostLoss_39 b (fun x1 x2 x3 v => f_X5_mostLoss_4 b  n x1 x2 x3 v) (fun x1 x2 x3 v => p_X5_mostLoss_4 b   n x1 x2 x3 v) x1 (x2 + (v.1 (b + 3) x3.toNatClampNeg)) x3 v)))))))))
set_option maxHeartbeats 4000000 in
set_option maxRecDepth 100000 in
theorem w_X5_mostLoss_4 {E : gE} {d : Nat} {Q : gO → gS → Prop} (b : Nat) (hb : isBk b) (hd : 1 ≤ d) : ∀ (n : Nat) (x1 : Int32) (x2 : Int32) (x3 : Int32) (v : gV), p_X5_mostLoss_4 b   n x1 x2 x3 v → gqI Q v (f_X5_mostLoss_4 b  n x1 x2 x3 v) → gG E m_X5_mostLoss d Q 0 0 (rS v) 4 [(0, .ref (gX E + (b + 1))), (1, .int x1), (2, .int x2), (3, .int x3)] [] := by
  intro n
  induction n with
  | zero => intro x1 x2 x3 v hp; exact hp.elim
  | succ n ih =>
    intro x1 x2 x3 v hp hQ
    refine g_iload_n 3 dX5_mostLoss_4 rfl ?_
    refine g_aload_n 0 dX5_mostLoss_5 rfl ?_
    refine r_get (.int (v.1 (b + 1) 1)) f_X5_71_X5 rfl (kb_1 hb) (lt_b hb (by decide)) dX5_mostLoss_6 (fun _ => rfl) ?_
    refine g_icmp_ge 45 dX5_mostLoss_9 (by decide) (fun h1 => ?_) (fun h1 => ?_)
    · have hQ := qp (P := gqI Q v) h1 hQ
      have hp := hp.1 h1
      refine g_iload_n 2 dX5_mostLoss_45 rfl ?_
      exact g_iret rfl dX5_mostLoss_46 hQ
    · have hQ := qn (P := gqI Q v) h1 hQ
      have hp := hp.2 h1
      refine g_aload_n 0 dX5_mostLoss_12 rfl ?_
      refine g_iload_n 3 dX5_mostLoss_13 rfl ?_
      refine g_iload_n 1 dX5_mostLoss_14 rfl ?_
      obtain ⟨h2, hp⟩ := hp
      refine g_callV (rest := []) s_X5_64_X5 rfl (c_X5_isActiveAt (E := E) (d := d - 1) b hb (by omega) x3 x1 v h2) (kb_1 hb) (lt_b hb (by decide)) rfl rfl (Nat.le_of_ble_eq_true rfl) (by omega) (by decide) (by decide) dX5_mostLoss_15 (adV ?_) axN
      refine g_if_eq 39 dX5_mostLoss_18 (by decide) (fun h3 => ?_) (fun h3 => ?_)
      · have hQ := qp (P := gqI Q v) h3 hQ
        have hp := hp.1 h3
        exact w_X5_mostLoss_39 b hb hd (fun x1 x2 x3 v => f_X5_mostLoss_4 b  n x1 x2 x3 v) (fun x1 x2 x3 v => p_X5_mostLoss_4 b   n x1 x2 x3 v) ih x1 x2 x3 v hp hQ
      · have hQ := qn (P := gqI Q v) h3 hQ
        have hp := hp.2 h3
        refine g_aload_n 0 dX5_mostLoss_21 rfl ?_
        refine r_get (.ref (gX E + (b + 4))) f_X5_15_X5 rfl (kb_1 hb) (lt_b hb (by decide)) dX5_mostLoss_22 (fun _ => rfl) ?_
        refine g_iload_n 3 dX5_mostLoss_25 rfl ?_
        obtain ⟨h4, hp⟩ := hp
        refine g_iald (kb_4 hb) (lt_b hb (by decide)) h4 dX5_mostLoss_26 ?_
        refine g_if_le 39 dX5_mostLoss_27 (by decide) (fun h5 => ?_) (fun h5 => ?_)
        · have hQ := qp (P := gqI Q v) h5 hQ
          have hp := hp.1 h5
          exact w_X5_mostLoss_39 b hb hd (fun x1 x2 x3 v => f_X5_mostLoss_4 b  n x1 x2 x3 v) (fun x1 x2 x3 v => p_X5_mostLoss_4 b   n x1 x2 x3 v) ih x1 x2 x3 v hp hQ
        · have hQ := qn (P := gqI Q v) h5 hQ
          have hp := hp.2 h5
          refine g_iload_n 2 dX5_mostLoss_30 rfl ?_
          refine g_aload_n 0 dX5_mostLoss_31 rfl ?_
          refine r_get (.ref (gX E + (b + 3))) f_X5_9_X5 rfl (kb_1 hb) (lt_b hb (by decide)) dX5_mostLoss_32 (fun _ => rfl) ?_
          refine g_iload_n 3 dX5_mostLoss_35 rfl ?_
          obtain ⟨h6, hp⟩ := hp
          refine g_iald (kb_3 hb) (lt_b hb (by decide)) h6 dX5_mostLoss_36 ?_
          refine g_iadd dX5_mostLoss_37 ?_
          refine g_istore_n [(2, .int (x2 + (v.1 (b + 3) x3.toNatClampNeg))), (0, .ref (gX E + (b + 1))), (1, .int x1), (3, .int x3)] dX5_mostLoss_38 rfl (by decide) rfl ?_
          refine g_lv (lv' := [(0, .ref (gX E + (b + 1))), (1, .int x1), (2, .int (x2 + (v.1 (b + 3) x3.toNatClampNeg))), (3, .int x3)]) [1, 2, 0, 3] rfl ?_
          exact w_X5_mostLoss_39 b hb hd (fun x1 x2 x3 v => f_X5_mostLoss_4 b  n x1 x2 x3 v) (fun x1 x2 x3 v => p_X5_mostLoss_4 b   n x1 x2 x3 v) ih x1 (x2 + (v.1 (b + 3) x3.toNatClampNeg)) x3 v hp hQ
def f_X5_mostLoss_0 (b : Nat) (x1 : Int32) (v : gV) : Int32 := f_X5_mostLoss_4 b  5000 x1 (0 : Int32) (0 : Int32) v
def p_X5_mostLoss_0 (b : Nat) (x1 : Int32) (v : gV) : Prop := p_X5_mostLoss_4 b   5000 x1 (0 : Int32) (0 : Int32) v
set_option maxHeartbeats 4000000 in
set_option maxRecDepth 100000 in
theorem w_X5_mostLoss_0 {E : gE} {d : Nat} {Q : gO → gS → Prop} (b : Nat) (hb : isBk b) (hd : 1 ≤ d) (x1 : Int32) (v : gV) (hp : p_X5_mostLoss_0 b   x1 v) (hQ : gqI Q v (f_X5_mostLoss_0 b  x1 v)) : gG E m_X5_mostLoss d Q 0 0 (rS v) 0 [(0, .ref (gX E + (b + 1))), (1, .int x1)] [] := by
  refine g_iconst dX5_mostLoss_0 (0 : Int32) (by decide) ?_
  refine g_istore_n [(2, .int ((0 : Int32))), (0, .ref (gX E + (b + 1))), (1, .int x1)] dX5_mostLoss_1 rfl (by decide) rfl ?_
  refine g_iconst dX5_mostLoss_2 (0 : Int32) (by decide) ?_
  refine g_istore_n [(3, .int ((0 : Int32))), (2, .int ((0 : Int32))), (0, .ref (gX E + (b + 1))), (1, .int x1)] dX5_mostLoss_3 rfl (by decide) rfl ?_
  refine g_lv (lv' := [(0, .ref (gX E + (b + 1))), (1, .int x1), (2, .int ((0 : Int32))), (3, .int ((0 : Int32)))]) [2, 3, 1, 0] rfl ?_
  exact w_X5_mostLoss_4 b hb hd    5000 x1 (0 : Int32) (0 : Int32) v hp hQ
def f_X5_mostLoss (b : Nat) (x1 : Int32) (v : gV) : Int32 := f_X5_mostLoss_0 b x1 v
def p_X5_mostLoss (b : Nat) (x1 : Int32) (v : gV) : Prop := p_X5_mostLoss_0 b x1 v
theorem c_X5_mostLoss {E : gE} {d : Nat} (b : Nat) (hb : isBk b) (hd : 1 ≤ d) (x1 : Int32) (v : gV) (hp : p_X5_mostLoss b x1 v) : CT E m_X5_mostLoss d 0 0 [.ref (gX E + (b + 1)), .int x1] (rS v) (Cq (.inl (some (.int (f_X5_mostLoss b x1 v)))) v) := CT.of ok_X5_mostLoss rfl (Nat.le_of_ble_eq_true rfl) (w_X5_mostLoss_0 b hb hd x1 v hp ⟨rfl, rfl⟩)
def f_X5_addBoat_51 (b : Nat) (K4 : Int32 → Int32 → Int32 → gV → gV)  (x1 : Int32) (x2 : Int32) (x3 : Int32) (v : gV) : gV := K4 x1 x2 (x3 + (-1)) v
def p_X5_addBoat_51 (b : Nat) (K4 : Int32 → Int32 → Int32 → gV → gV)  (PK4 : Int32 → Int32 → Int32 → gV → Prop)  (x1 : Int32) (x2 : Int32) (x3 : Int32) (v : gV) : Prop := PK4 x1 x2 (x3 + (-1)) v
set_option maxHeartbeats 4000000 in
set_option maxRecDepth 100000 in
theorem w_X5_addBoat_51 {E : gE} {d : Nat} {Q : gO → gS → Prop} (b : Nat) (hb : isBk b) (hd : 0 ≤ d) (K4 : Int32 → Int32 → Int32 → gV → gV)  (PK4 : Int32 → Int32 → Int32 → gV → Prop)  (hK4 : ∀ (x1 : Int32) (x2 : Int32) (x3 : Int32) (v : gV), PK4 x1 x2 x3 v → gqV Q (K4 x1 x2 x3 v) → gG E m_X5_addBoat d Q 0 0 (rS v) 4 [(0, .ref (gX E + (b + 1))), (1, .int x1), (2, .int x2), (3, .int x3)] [])  (x1 : Int32) (x2 : Int32) (x3 : Int32) (v : gV) (hp : p_X5_addBoat_51 b K4 PK4 x1 x2 x3 v) (hQ : gqV Q (f_X5_addBoat_51 b K4 x1 x2 x3 v)) : gG E m_X5_addBoat d Q 0 0 (rS v) 51 [(0, .ref (gX E + (b + 1))), (1, .int x1), (2, .int x2), (3, .int x3)] [] := by
  refine g_iinc 3 (x3 + (-1)) [(3, .int (x3 + (-1))), (0, .ref (gX E + (b + 1))), (1, .int x1), (2, .int x2)] dX5_addBoat_51 rfl rfl (by decide) rfl ?_
  refine g_goto 4 dX5_addBoat_54 (by decide) ?_
  refine g_lv (lv' := [(0, .ref (gX E + (b + 1))), (1, .int x1), (2, .int x2), (3, .int (x3 + (-1)))]) [1, 2, 3, 0] rfl ?_
  exact hK4 x1 x2 (x3 + (-1)) v hp hQ
def f_X5_addBoat_28 (b : Nat) (K4 : Int32 → Int32 → Int32 → gV → gV)  (x1 : Int32) (x2 : Int32) (x3 : Int32) (s0 : Int64) (v : gV) : gV := f_X5_addBoat_51 b K4 x1 x2 x3 (vL v (b + 9) x3.toNatClampNeg (((v.2.1 (b + 9) x3.toNatClampNeg) * (((8 : Int32) - x2).toInt64)) + s0))
def p_X5_addBoat_28 (b : Nat) (K4 : Int32 → Int32 → Int32 → gV → gV)  (PK4 : Int32 → Int32 → Int32 → gV → Prop)  (x1 : Int32) (x2 : Int32) (x3 : Int32) (s0 : Int64) (v : gV) : Prop := (vp_in x3 241) ∧ ((vp_in x3 241) ∧ (p_X5_addBoat_51 b K4 PK4 x1 x2 x3 (vL v (b + 9) x3.toNatClampNeg (((v.2.1 (b + 9) x3.toNatClampNeg) * (((8 : Int32) - x2).toInt64)) + s0))))
set_option maxHeartbeats 4000000 in
set_option maxRecDepth 100000 in
theorem w_X5_addBoat_28 {E : gE} {d : Nat} {Q : gO → gS → Prop} (b : Nat) (hb : isBk b) (hd : 0 ≤ d) (K4 : Int32 → Int32 → Int32 → gV → gV)  (PK4 : Int32 → Int32 → Int32 → gV → Prop)  (hK4 : ∀ (x1 : Int32) (x2 : Int32) (x3 : Int32) (v : gV), PK4 x1 x2 x3 v → gqV Q (K4 x1 x2 x3 v) → gG E m_X5_addBoat d Q 0 0 (rS v) 4 [(0, .ref (gX E + (b + 1))), (1, .int x1), (2, .int x2), (3, .int x3)] [])  (x1 : Int32) (x2 : Int32) (x3 : Int32) (s0 : Int64) (v : gV) (hp : p_X5_addBoat_28 b K4 PK4 x1 x2 x3 s0 v) (hQ : gqV Q (f_X5_addBoat_28 b K4 x1 x2 x3 s0 v)) : gG E m_X5_addBoat d Q 0 0 (rS v) 28 [(0, .ref (gX E + (b + 1))), (1, .int x1), (2, .int x2), (3, .int x3)] [.long s0] := by
  refine g_lstore [(4, .long s0), (0, .ref (gX E + (b + 1))), (1, .int x1), (2, .int x2), (3, .int x3)] dX5_addBoat_28 (by decide) rfl ?_
  refine g_aload_n 1 dX5_addBoat_30 rfl ?_
  refine r_get (.ref (gX E + (b + 9))) f_X5_30_X5 rfl (kb_1 hb) (lt_b hb (by decide)) dX5_addBoat_31 (fun _ => rfl) ?_
  refine g_iload_n 4 dX5_addBoat_34 rfl ?_
  refine g_aload_n 1 dX5_addBoat_35 rfl ?_
  refine r_get (.ref (gX E + (b + 9))) f_X5_30_X5 rfl (kb_1 hb) (lt_b hb (by decide)) dX5_addBoat_36 (fun _ => rfl) ?_
  refine g_iload_n 4 dX5_addBoat_39 rfl ?_
  obtain ⟨h3, hp⟩ := hp
  refine g_lald (kb_9 hb) (lt_b hb (by decide)) h3 dX5_addBoat_40 ?_
  refine g_bipush dX5_addBoat_41 (8 : Int32) (by decide) ?_
  refine g_iload_n 3 dX5_addBoat_43 rfl ?_
  refine g_isub dX5_addBoat_44 ?_
  refine g_i2l dX5_addBoat_45 ?_
  refine g_lmul dX5_addBoat_46 ?_
  refine g_lload 0 dX5_addBoat_47 rfl ?_
  refine g_ladd dX5_addBoat_49 ?_
  obtain ⟨h4, hp⟩ := hp
  refine r_last (kb_9 hb) (lt_b hb (by decide)) h4 dX5_addBoat_50 ?_
  refine g_lv (lv' := [(0, .ref (gX E + (b + 1))), (1, .int x1), (2, .int x2), (3, .int x3)]) [1, 2, 3, 4] rfl ?_
  exact w_X5_addBoat_51 b hb hd K4 PK4 hK4 x1 x2 x3 (vL v (b + 9) x3.toNatClampNeg (((v.2.1 (b + 9) x3.toNatClampNeg) * (((8 : Int32) - x2).toInt64)) + s0)) hp hQ
def f_X5_addBoat_4 (b : Nat) : Nat → Int32 → Int32 → Int32 → gV → gV
  | 0, _, _, _, v => v
  | n + 1, x1, x2, x3, v => if x3 < 0 then v else (if x3 < x1 then (f_X5_addBoat_28 b (fun x1 x2 x3 v => f_X5_addBoat_4 b  n x1 x2 x3 v) x1 x2 x3 (0 : Int64) v) else (f_X5_addBoat_28 b (fun x1 x2 x3 v => f_X5_addBoat_4 b  n x1 x2 x3 v) x1 x2 x3 ((v.2.1 (b + 9) (x3 - x1).toNatClampNeg) * x2.toInt64) v))
def p_X5_addBoat_4 (b : Nat) : Nat → Int32 → Int32 → Int32 → gV → Prop
  | 0, _, _, _, _ => False
  | n + 1, x1, x2, x3, v => ((x3 < 0) → (True)) ∧ (¬ (x3 < 0) → (((x3 < x1) → (p_X5_addBoat_28 b (fun x1 x2 x3 v => f_X5_addBoat_4 b  n x1 x2 x3 v) (fun x1 x2 x3 v => p_X5_addBoat_4 b   n x1 x2 x3 v) x1 x2 x3 (0 : Int64) v)) ∧ (¬ (x3 < x1) → ((vp_in (x3 - x1) 241) ∧ (p_X5_addBoat_28 b (fun x1 x2 x3 v => f_X5_addBoat_4 b  n x1 x2 x3 v) (fun x1 x2 x3 v => p_X5_addBoat_4 b   n x1 x2 x3 v) x1 x2 x3 ((v.2.1 (b + 9) (x3 - x1).toNatClampNeg) * x2.toInt64) v)))))
set_option maxHeartbeats 4000000 in
set_option maxRecDepth 100000 in
theorem w_X5_addBoat_4 {E : gE} {d : Nat} {Q : gO → gS → Prop} (b : Nat) (hb : isBk b) (hd : 0 ≤ d) : ∀ (n : Nat) (x1 : Int32) (x2 : Int32) (x3 : Int32) (v : gV), p_X5_addBoat_4 b   n x1 x2 x3 v → gqV Q (f_X5_addBoat_4 b  n x1 x2 x3 v) → gG E m_X5_addBoat d Q 0 0 (rS v) 4 [(0, .ref (gX E + (b + 1))), (1, .int x1), (2, .int x2), (3, .int x3)] [] := by
  intro n
  induction n with
  | zero => intro x1 x2 x3 v hp; exact hp.elim
  | succ n ih =>
    intro x1 x2 x3 v hp hQ
    refine g_iload_n 3 dX5_addBoat_4 rfl ?_
    refine g_if_lt 57 dX5_addBoat_5 (by decide) (fun h1 => ?_) (fun h1 => ?_)
    · have hQ := qp (P := gqV Q) h1 hQ
      have hp := hp.1 h1
      exact g_vret rfl dX5_addBoat_57 hQ
    · have hQ := qn (P := gqV Q) h1 hQ
      have hp := hp.2 h1
      refine g_iload_n 3 dX5_addBoat_8 rfl ?_
      refine g_iload_n 1 dX5_addBoat_9 rfl ?_
      refine g_icmp_lt 27 dX5_addBoat_10 (by decide) (fun h2 => ?_) (fun h2 => ?_)
      · have hQ := qp (P := gqV Q) h2 hQ
        have hp := hp.1 h2
        refine g_lconst dX5_addBoat_27 (0 : Int64) (by decide) ?_
        exact w_X5_addBoat_28 b hb hd (fun x1 x2 x3 v => f_X5_addBoat_4 b  n x1 x2 x3 v) (fun x1 x2 x3 v => p_X5_addBoat_4 b   n x1 x2 x3 v) ih x1 x2 x3 (0 : Int64) v hp hQ
      · have hQ := qn (P := gqV Q) h2 hQ
        have hp := hp.2 h2
        refine g_aload_n 0 dX5_addBoat_13 rfl ?_
        refine r_get (.ref (gX E + (b + 9))) f_X5_30_X5 rfl (kb_1 hb) (lt_b hb (by decide)) dX5_addBoat_14 (fun _ => rfl) ?_
        refine g_iload_n 3 dX5_addBoat_17 rfl ?_
        refine g_iload_n 1 dX5_addBoat_18 rfl ?_
        refine g_isub dX5_addBoat_19 ?_
        obtain ⟨h5, hp⟩ := hp
        refine g_lald (kb_9 hb) (lt_b hb (by decide)) h5 dX5_addBoat_20 ?_
        refine g_iload_n 2 dX5_addBoat_21 rfl ?_
        refine g_i2l dX5_addBoat_22 ?_
        refine g_lmul dX5_addBoat_23 ?_
        refine g_goto 28 dX5_addBoat_24 (by decide) ?_
        exact w_X5_addBoat_28 b hb hd (fun x1 x2 x3 v => f_X5_addBoat_4 b  n x1 x2 x3 v) (fun x1 x2 x3 v => p_X5_addBoat_4 b   n x1 x2 x3 v) ih x1 x2 x3 ((v.2.1 (b + 9) (x3 - x1).toNatClampNeg) * x2.toInt64) v hp hQ
def f_X5_addBoat_0 (b : Nat) (x1 : Int32) (x2 : Int32) (v : gV) : gV := f_X5_addBoat_4 b  5000 x1 x2 (240 : Int32) v
def p_X5_addBoat_0 (b : Nat) (x1 : Int32) (x2 : Int32) (v : gV) : Prop := p_X5_addBoat_4 b   5000 x1 x2 (240 : Int32) v
set_option maxHeartbeats 4000000 in
set_option maxRecDepth 100000 in
theorem w_X5_addBoat_0 {E : gE} {d : Nat} {Q : gO → gS → Prop} (b : Nat) (hb : isBk b) (hd : 0 ≤ d) (x1 : Int32) (x2 : Int32) (v : gV) (hp : p_X5_addBoat_0 b   x1 x2 v) (hQ : gqV Q (f_X5_addBoat_0 b  x1 x2 v)) : gG E m_X5_addBoat d Q 0 0 (rS v) 0 [(0, .ref (gX E + (b + 1))), (1, .int x1), (2, .int x2)] [] := by
  refine g_sipush dX5_addBoat_0 (240 : Int32) (by decide) ?_
  refine g_istore_n [(3, .int ((240 : Int32))), (0, .ref (gX E + (b + 1))), (1, .int x1), (2, .int x2)] dX5_addBoat_3 rfl (by decide) rfl ?_
  refine g_lv (lv' := [(0, .ref (gX E + (b + 1))), (1, .int x1), (2, .int x2), (3, .int ((240 : Int32)))]) [1, 2, 3, 0] rfl ?_
  exact w_X5_addBoat_4 b hb hd    5000 x1 x2 (240 : Int32) v hp hQ
def f_X5_addBoat (b : Nat) (x1 : Int32) (x2 : Int32) (v : gV) : gV := f_X5_addBoat_0 b x1 x2 v
def p_X5_addBoat (b : Nat) (x1 : Int32) (x2 : Int32) (v : gV) : Prop := p_X5_addBoat_0 b x1 x2 v
theorem c_X5_addBoat {E : gE} {d : Nat} (b : Nat) (hb : isBk b) (hd : 0 ≤ d) (x1 : Int32) (x2 : Int32) (v : gV) (hp : p_X5_addBoat b x1 x2 v) : CT E m_X5_addBoat d 0 0 [.ref (gX E + (b + 1)), .int x1, .int x2] (rS v) (Cq (.inl none) (f_X5_addBoat b x1 x2 v)) := CT.of ok_X5_addBoat rfl (Nat.le_of_ble_eq_true rfl) (w_X5_addBoat_0 b hb hd x1 x2 v hp ⟨rfl, rfl⟩)
def f_X5_lossOfSet_30 (b : Nat) (K4 : Int32 → Int32 → Int32 → gV → Int32)  (x1 : Int32) (x2 : Int32) (x3 : Int32) (v : gV) : Int32 := K4 x1 x2 (x3 + 1) v
def p_X5_lossOfSet_30 (b : Nat) (K4 : Int32 → Int32 → Int32 → gV → Int32)  (PK4 : Int32 → Int32 → Int32 → gV → Prop)  (x1 : Int32) (x2 : Int32) (x3 : Int32) (v : gV) : Prop := PK4 x1 x2 (x3 + 1) v
set_option maxHeartbeats 4000000 in
set_option maxRecDepth 100000 in
theorem w_X5_lossOfSet_30 {E : gE} {d : Nat} {Q : gO → gS → Prop} (b : Nat) (hb : isBk b) (hd : 0 ≤ d) (K4 : Int32 → Int32 → Int32 → gV → Int32)  (PK4 : Int32 → Int32 → Int32 → gV → Prop)  (hK4 : ∀ (x1 : Int32) (x2 : Int32) (x3 : Int32) (v : gV), PK4 x1 x2 x3 v → gqI Q v (K4 x1 x2 x3 v) → gG E m_X5_lossOfSet d Q 0 0 (rS v) 4 [(0, .ref (gX E + (b + 1))), (1, .int x1), (2, .int x2), (3, .int x3)] [])  (x1 : Int32) (x2 : Int32) (x3 : Int32) (v : gV) (hp : p_X5_lossOfSet_30 b K4 PK4 x1 x2 x3 v) (hQ : gqI Q v (f_X5_lossOfSet_30 b K4 x1 x2 x3 v)) : gG E m_X5_lossOfSet d Q 0 0 (rS v) 30 [(0, .ref (gX E + (b + 1))), (1, .int x1), (2, .int x2), (3, .int x3)] [] := by
  refine g_iinc 3 (x3 + 1) [(3, .int (x3 + 1)), (0, .ref (gX E + (b + 1))), (1, .int x1), (2, .int x2)] dX5_lossOfSet_30 rfl rfl (by decide) rfl ?_
  refine g_goto 4 dX5_lossOfSet_33 (by decide) ?_
  refine g_lv (lv' := [(0, .ref (gX E + (b + 1))), (1, .int x1), (2, .int x2), (3, .int (x3 + 1))]) [1, 2, 3, 0] rfl ?_
  exact hK4 x1 x2 (x3 + 1) v hp hQ
def f_X5_lossOfSet_4 (b : Nat) : Nat → Int32 → Int32 → Int32 → gV → Int32
  | 0, _, _, _, v => 0
  | n + 1, x1, x2, x3, v => if (v.1 (b + 1) 1) ≤ x3 then x2 else (if ((x1 >>> (x3 &&& 31)) &&& (1 : Int32)) = (1 : Int32) then (f_X5_lossOfSet_30 b (fun x1 x2 x3 v => f_X5_lossOfSet_4 b  n x1 x2 x3 v) x1 (x2 + (v.1 (b + 3) x3.toNatClampNeg)) x3 v) else (f_X5_lossOfSet_30 b (fun x1 x2 x3 v => f_X5_lossOfSet_4 b  n x1 x2 x3 v) x1 x2 x3 v))
def p_X5_lossOfSet_4 (b : Nat) : Nat → Int32 → Int32 → Int32 → gV → Prop
  | 0, _, _, _, _ => False
  | n + 1, x1, x2, x3, v => (((v.1 (b + 1) 1) ≤ x3) → (True)) ∧ (¬ ((v.1 (b + 1) 1) ≤ x3) → (((((x1 >>> (x3 &&& 31)) &&& (1 : Int32)) = (1 : Int32)) → ((vp_in x3 8) ∧ (p_X5_lossOfSet_30 b (fun x1 x2 x3 v => f_X5_lossOfSet_4 b  n x1 x2 x3 v) (fun x1 x2 x3 v => p_X5_lossOfSet_4 b   n x1 x2 x3 v) x1 (x2 + (v.1 (b + 3) x3.toNatClampNeg)) x3 v))) ∧ (¬ (((x1 >>> (x3 &&& 31)) &&& (1 : Int32)) = (1 : Int32)) → (p_X5_lossOfSet_30 b (fun x1 x2 x3 v => f_X5_lossOfSet_4 b  n x1 x2 x3 v) (fun x1 x2 x3 v => p_X5_lossOfSet_4 b   n x1 x2 x3 v) x1 x2 x3 v))))
set_option maxHeartbeats 4000000 in
set_option maxRecDepth 100000 in
theorem w_X5_lossOfSet_4 {E : gE} {d : Nat} {Q : gO → gS → Prop} (b : Nat) (hb : isBk b) (hd : 0 ≤ d) : ∀ (n : Nat) (x1 : Int32) (x2 : Int32) (x3 : Int32) (v : gV), p_X5_lossOfSet_4 b   n x1 x2 x3 v → gqI Q v (f_X5_lossOfSet_4 b  n x1 x2 x3 v) → gG E m_X5_lossOfSet d Q 0 0 (rS v) 4 [(0, .ref (gX E + (b + 1))), (1, .int x1), (2, .int x2), (3, .int x3)] [] := by
  intro n
  induction n with
  | zero => intro x1 x2 x3 v hp; exact hp.elim
  | succ n ih =>
    intro x1 x2 x3 v hp hQ
    refine g_iload_n 3 dX5_lossOfSet_4 rfl ?_
    refine g_aload_n 0 dX5_lossOfSet_5 rfl ?_
    refine r_get (.int (v.1 (b + 1) 1)) f_X5_71_X5 rfl (kb_1 hb) (lt_b hb (by decide)) dX5_lossOfSet_6 (fun _ => rfl) ?_
    refine g_icmp_ge 36 dX5_lossOfSet_9 (by decide) (fun h1 => ?_) (fun h1 => ?_)
    · have hQ := qp (P := gqI Q v) h1 hQ
      have hp := hp.1 h1
      refine g_iload_n 2 dX5_lossOfSet_36 rfl ?_
      exact g_iret rfl dX5_lossOfSet_37 hQ
    · have hQ := qn (P := gqI Q v) h1 hQ
      have hp := hp.2 h1
      refine g_iload_n 1 dX5_lossOfSet_12 rfl ?_
      refine g_iload_n 3 dX5_lossOfSet_13 rfl ?_
      refine g_ishr dX5_lossOfSet_14 ?_
      refine g_iconst dX5_lossOfSet_15 (1 : Int32) (by decide) ?_
      refine g_iand dX5_lossOfSet_16 ?_
      refine g_iconst dX5_lossOfSet_17 (1 : Int32) (by decide) ?_
      refine g_icmp_ne 30 dX5_lossOfSet_18 (by decide) (fun h2 => ?_) (fun h2 => ?_)
      · have hQ := qn (P := gqI Q v) h2 hQ
        have hp := hp.2 h2
        exact w_X5_lossOfSet_30 b hb hd (fun x1 x2 x3 v => f_X5_lossOfSet_4 b  n x1 x2 x3 v) (fun x1 x2 x3 v => p_X5_lossOfSet_4 b   n x1 x2 x3 v) ih x1 x2 x3 v hp hQ
      · have hQ := qp (P := gqI Q v) h2 hQ
        have hp := hp.1 h2
        refine g_iload_n 2 dX5_lossOfSet_21 rfl ?_
        refine g_aload_n 0 dX5_lossOfSet_22 rfl ?_
        refine r_get (.ref (gX E + (b + 3))) f_X5_9_X5 rfl (kb_1 hb) (lt_b hb (by decide)) dX5_lossOfSet_23 (fun _ => rfl) ?_
        refine g_iload_n 3 dX5_lossOfSet_26 rfl ?_
        obtain ⟨h3, hp⟩ := hp
        refine g_iald (kb_3 hb) (lt_b hb (by decide)) h3 dX5_lossOfSet_27 ?_
        refine g_iadd dX5_lossOfSet_28 ?_
        refine g_istore_n [(2, .int (x2 + (v.1 (b + 3) x3.toNatClampNeg))), (0, .ref (gX E + (b + 1))), (1, .int x1), (3, .int x3)] dX5_lossOfSet_29 rfl (by decide) rfl ?_
        refine g_lv (lv' := [(0, .ref (gX E + (b + 1))), (1, .int x1), (2, .int (x2 + (v.1 (b + 3) x3.toNatClampNeg))), (3, .int x3)]) [1, 2, 0, 3] rfl ?_
        exact w_X5_lossOfSet_30 b hb hd (fun x1 x2 x3 v => f_X5_lossOfSet_4 b  n x1 x2 x3 v) (fun x1 x2 x3 v => p_X5_lossOfSet_4 b   n x1 x2 x3 v) ih x1 (x2 + (v.1 (b + 3) x3.toNatClampNeg)) x3 v hp hQ
def f_X5_lossOfSet_0 (b : Nat) (x1 : Int32) (v : gV) : Int32 := f_X5_lossOfSet_4 b  5000 x1 (0 : Int32) (0 : Int32) v
def p_X5_lossOfSet_0 (b : Nat) (x1 : Int32) (v : gV) : Prop := p_X5_lossOfSet_4 b   5000 x1 (0 : Int32) (0 : Int32) v
set_option maxHeartbeats 4000000 in
set_option maxRecDepth 100000 in
theorem w_X5_lossOfSet_0 {E : gE} {d : Nat} {Q : gO → gS → Prop} (b : Nat) (hb : isBk b) (hd : 0 ≤ d) (x1 : Int32) (v : gV) (hp : p_X5_lossOfSet_0 b   x1 v) (hQ : gqI Q v (f_X5_lossOfSet_0 b  x1 v)) : gG E m_X5_lossOfSet d Q 0 0 (rS v) 0 [(0, .ref (gX E + (b + 1))), (1, .int x1)] [] := by
  refine g_iconst dX5_lossOfSet_0 (0 : Int32) (by decide) ?_
  refine g_istore_n [(2, .int ((0 : Int32))), (0, .ref (gX E + (b + 1))), (1, .int x1)] dX5_lossOfSet_1 rfl (by decide) rfl ?_
  refine g_iconst dX5_lossOfSet_2 (0 : Int32) (by decide) ?_
  refine g_istore_n [(3, .int ((0 : Int32))), (2, .int ((0 : Int32))), (0, .ref (gX E + (b + 1))), (1, .int x1)] dX5_lossOfSet_3 rfl (by decide) rfl ?_
  refine g_lv (lv' := [(0, .ref (gX E + (b + 1))), (1, .int x1), (2, .int ((0 : Int32))), (3, .int ((0 : Int32)))]) [2, 3, 1, 0] rfl ?_
  exact w_X5_lossOfSet_4 b hb hd    5000 x1 (0 : Int32) (0 : Int32) v hp hQ
def f_X5_lossOfSet (b : Nat) (x1 : Int32) (v : gV) : Int32 := f_X5_lossOfSet_0 b x1 v
def p_X5_lossOfSet (b : Nat) (x1 : Int32) (v : gV) : Prop := p_X5_lossOfSet_0 b x1 v
theorem c_X5_lossOfSet {E : gE} {d : Nat} (b : Nat) (hb : isBk b) (hd : 0 ≤ d) (x1 : Int32) (v : gV) (hp : p_X5_lossOfSet b x1 v) : CT E m_X5_lossOfSet d 0 0 [.ref (gX E + (b + 1)), .int x1] (rS v) (Cq (.inl (some (.int (f_X5_lossOfSet b x1 v)))) v) := CT.of ok_X5_lossOfSet rfl (Nat.le_of_ble_eq_true rfl) (w_X5_lossOfSet_0 b hb hd x1 v hp ⟨rfl, rfl⟩)
def f_X5_waysOfSet_81 (b : Nat) (K5 : Int32 → Int32 → Int64 → Int32 → gV → Int64)  (x1 : Int32) (x2 : Int32) (x3 : Int64) (x5 : Int32) (v : gV) : Int64 := K5 x1 x2 x3 (x5 + 1) v
def p_X5_waysOfSet_81 (b : Nat) (K5 : Int32 → Int32 → Int64 → Int32 → gV → Int64)  (PK5 : Int32 → Int32 → Int64 → Int32 → gV → Prop)  (x1 : Int32) (x2 : Int32) (x3 : Int64) (x5 : Int32) (v : gV) : Prop := PK5 x1 x2 x3 (x5 + 1) v
set_option maxHeartbeats 4000000 in
set_option maxRecDepth 100000 in
theorem w_X5_waysOfSet_81 {E : gE} {d : Nat} {Q : gO → gS → Prop} (b : Nat) (hb : isBk b) (hd : 1 ≤ d) (K5 : Int32 → Int32 → Int64 → Int32 → gV → Int64)  (PK5 : Int32 → Int32 → Int64 → Int32 → gV → Prop)  (hK5 : ∀ (x1 : Int32) (x2 : Int32) (x3 : Int64) (x5 : Int32) (v : gV), PK5 x1 x2 x3 x5 v → gqJ Q v (K5 x1 x2 x3 x5 v) → gG E m_X5_waysOfSet d Q 0 0 (rS v) 5 [(0, .ref (gX E + (b + 1))), (1, .int x1), (2, .int x2), (3, .long x3), (5, .int x5)] [])  (x1 : Int32) (x2 : Int32) (x3 : Int64) (x5 : Int32) (v : gV) (hp : p_X5_waysOfSet_81 b K5 PK5 x1 x2 x3 x5 v) (hQ : gqJ Q v (f_X5_waysOfSet_81 b K5 x1 x2 x3 x5 v)) : gG E m_X5_waysOfSet d Q 0 0 (rS v) 81 [(0, .ref (gX E + (b + 1))), (1, .int x1), (2, .int x2), (3, .long x3), (5, .int x5)] [] := by
  refine g_iinc 4 (x5 + 1) [(5, .int (x5 + 1)), (0, .ref (gX E + (b + 1))), (1, .int x1), (2, .int x2), (3, .long x3)] dX5_waysOfSet_81 rfl rfl (by decide) rfl ?_
  refine g_goto 5 dX5_waysOfSet_84 (by decide) ?_
  refine g_lv (lv' := [(0, .ref (gX E + (b + 1))), (1, .int x1), (2, .int x2), (3, .long x3), (5, .int (x5 + 1))]) [1, 2, 3, 4, 0] rfl ?_
  exact hK5 x1 x2 x3 (x5 + 1) v hp hQ
def f_X5_waysOfSet_69 (b : Nat) (K5 : Int32 → Int32 → Int64 → Int32 → gV → Int64)  (x1 : Int32) (x2 : Int32) (x5 : Int32) (s0 : Int64) (s1 : Int64) (v : gV) : Int64 := f_X5_waysOfSet_81 b K5 x1 x2 (s1 * s0) x5 v
def p_X5_waysOfSet_69 (b : Nat) (K5 : Int32 → Int32 → Int64 → Int32 → gV → Int64)  (PK5 : Int32 → Int32 → Int64 → Int32 → gV → Prop)  (x1 : Int32) (x2 : Int32) (x5 : Int32) (s0 : Int64) (s1 : Int64) (v : gV) : Prop := p_X5_waysOfSet_81 b K5 PK5 x1 x2 (s1 * s0) x5 v
set_option maxHeartbeats 4000000 in
set_option maxRecDepth 100000 in
theorem w_X5_waysOfSet_69 {E : gE} {d : Nat} {Q : gO → gS → Prop} (b : Nat) (hb : isBk b) (hd : 1 ≤ d) (K5 : Int32 → Int32 → Int64 → Int32 → gV → Int64)  (PK5 : Int32 → Int32 → Int64 → Int32 → gV → Prop)  (hK5 : ∀ (x1 : Int32) (x2 : Int32) (x3 : Int64) (x5 : Int32) (v : gV), PK5 x1 x2 x3 x5 v → gqJ Q v (K5 x1 x2 x3 x5 v) → gG E m_X5_waysOfSet d Q 0 0 (rS v) 5 [(0, .ref (gX E + (b + 1))), (1, .int x1), (2, .int x2), (3, .long x3), (5, .int x5)] [])  (x1 : Int32) (x2 : Int32) (x5 : Int32) (s0 : Int64) (s1 : Int64) (v : gV) (hp : p_X5_waysOfSet_69 b K5 PK5 x1 x2 x5 s0 s1 v) (hQ : gqJ Q v (f_X5_waysOfSet_69 b K5 x1 x2 x5 s0 s1 v)) : gG E m_X5_waysOfSet d Q 0 0 (rS v) 69 [(0, .ref (gX E + (b + 1))), (1, .int x1), (2, .int x2), (5, .int x5)] [.long s0, .long s1] := by
  refine g_lmul dX5_waysOfSet_69 ?_
  refine g_lstore_n [(3, .long (s1 * s0)), (0, .ref (gX E + (b + 1))), (1, .int x1), (2, .int x2), (5, .int x5)] dX5_waysOfSet_70 rfl (by decide) rfl ?_
  refine g_goto 81 dX5_waysOfSet_71 (by decide) ?_
  refine g_lv (lv' := [(0, .ref (gX E + (b + 1))), (1, .int x1), (2, .int x2), (3, .long (s1 * s0)), (5, .int x5)]) [1, 2, 3, 0, 4] rfl ?_
  exact w_X5_waysOfSet_81 b hb hd K5 PK5 hK5 x1 x2 (s1 * s0) x5 v hp hQ
def f_X5_waysOfSet_29 (b : Nat) (K5 : Int32 → Int32 → Int64 → Int32 → gV → Int64)  (x1 : Int32) (x2 : Int32) (x3 : Int64) (x5 : Int32) (s0 : Int32) (v : gV) : Int64 := if (f_X5_isActiveAt b x5 x2 v) = 0 then (if s0 = 0 then (f_X5_waysOfSet_81 b K5 x1 x2 x3 x5 v) else ((0 : Int64))) else (if s0 = 0 then (f_X5_waysOfSet_69 b K5 x1 x2 x5 (((8 : Int32) - (v.1 (b + 4) x5.toNatClampNeg)).toInt64) x3 v) else (f_X5_waysOfSet_69 b K5 x1 x2 x5 ((v.1 (b + 4) x5.toNatClampNeg).toInt64) x3 v))
def p_X5_waysOfSet_29 (b : Nat) (K5 : Int32 → Int32 → Int64 → Int32 → gV → Int64)  (PK5 : Int32 → Int32 → Int64 → Int32 → gV → Prop)  (x1 : Int32) (x2 : Int32) (x3 : Int64) (x5 : Int32) (s0 : Int32) (v : gV) : Prop := (p_X5_isActiveAt b x5 x2 v) ∧ ((((f_X5_isActiveAt b x5 x2 v) = 0) → (((s0 = 0) → (p_X5_waysOfSet_81 b K5 PK5 x1 x2 x3 x5 v)) ∧ (¬ (s0 = 0) → (True)))) ∧ (¬ ((f_X5_isActiveAt b x5 x2 v) = 0) → (((s0 = 0) → ((vp_in x5 8) ∧ (p_X5_waysOfSet_69 b K5 PK5 x1 x2 x5 (((8 : Int32) - (v.1 (b + 4) x5.toNatClampNeg)).toInt64) x3 v))) ∧ (¬ (s0 = 0) → ((vp_in x5 8) ∧ (p_X5_waysOfSet_69 b K5 PK5 x1 x2 x5 ((v.1 (b + 4) x5.toNatClampNeg).toInt64) x3 v))))))
set_option maxHeartbeats 4000000 in
set_option maxRecDepth 100000 in
theorem w_X5_waysOfSet_29 {E : gE} {d : Nat} {Q : gO → gS → Prop} (b : Nat) (hb : isBk b) (hd : 1 ≤ d) (K5 : Int32 → Int32 → Int64 → Int32 → gV → Int64)  (PK5 : Int32 → Int32 → Int64 → Int32 → gV → Prop)  (hK5 : ∀ (x1 : Int32) (x2 : Int32) (x3 : Int64) (x5 : Int32) (v : gV), PK5 x1 x2 x3 x5 v → gqJ Q v (K5 x1 x2 x3 x5 v) → gG E m_X5_waysOfSet d Q 0 0 (rS v) 5 [(0, .ref (gX E + (b + 1))), (1, .int x1), (2, .int x2), (3, .long x3), (5, .int x5)] [])  (x1 : Int32) (x2 : Int32) (x3 : Int64) (x5 : Int32) (s0 : Int32) (v : gV) (hp : p_X5_waysOfSet_29 b K5 PK5 x1 x2 x3 x5 s0 v) (hQ : gqJ Q v (f_X5_waysOfSet_29 b K5 x1 x2 x3 x5 s0 v)) : gG E m_X5_waysOfSet d Q 0 0 (rS v) 29 [(0, .ref (gX E + (b + 1))), (1, .int x1), (2, .int x2), (3, .long x3), (5, .int x5)] [.int s0] := by
  refine g_istore [(6, .int s0), (0, .ref (gX E + (b + 1))), (1, .int x1), (2, .int x2), (3, .long x3), (5, .int x5)] dX5_waysOfSet_29 (by decide) rfl ?_
  refine g_aload_n 1 dX5_waysOfSet_31 rfl ?_
  refine g_iload 5 dX5_waysOfSet_32 rfl ?_
  refine g_iload_n 3 dX5_waysOfSet_34 rfl ?_
  obtain ⟨h3, hp⟩ := hp
  refine g_callV (rest := []) s_X5_64_X5 rfl (c_X5_isActiveAt (E := E) (d := d - 1) b hb (by omega) x5 x2 v h3) (kb_1 hb) (lt_b hb (by decide)) rfl rfl (Nat.le_of_ble_eq_true rfl) (by omega) (by decide) (by decide) dX5_waysOfSet_35 (adV ?_) axN
  refine g_if_eq 74 dX5_waysOfSet_38 (by decide) (fun h4 => ?_) (fun h4 => ?_)
  · have hQ := qp (P := gqJ Q v) h4 hQ
    have hp := hp.1 h4
    refine g_iload 0 dX5_waysOfSet_74 rfl ?_
    refine g_if_eq 81 dX5_waysOfSet_76 (by decide) (fun h5 => ?_) (fun h5 => ?_)
    · have hQ := qp (P := gqJ Q v) h5 hQ
      have hp := hp.1 h5
      refine g_lv (lv' := [(0, .ref (gX E + (b + 1))), (1, .int x1), (2, .int x2), (3, .long x3), (5, .int x5)]) [1, 2, 3, 4, 5] rfl ?_
      exact w_X5_waysOfSet_81 b hb hd K5 PK5 hK5 x1 x2 x3 x5 v hp hQ
    · have hQ := qn (P := gqJ Q v) h5 hQ
      have hp := hp.2 h5
      refine g_lconst dX5_waysOfSet_79 (0 : Int64) (by decide) ?_
      exact g_lret rfl dX5_waysOfSet_80 hQ
  · have hQ := qn (P := gqJ Q v) h4 hQ
    have hp := hp.2 h4
    refine g_lload_n 4 dX5_waysOfSet_41 rfl ?_
    refine g_iload 0 dX5_waysOfSet_42 rfl ?_
    refine g_if_eq 58 dX5_waysOfSet_44 (by decide) (fun h6 => ?_) (fun h6 => ?_)
    · have hQ := qp (P := gqJ Q v) h6 hQ
      have hp := hp.1 h6
      refine g_bipush dX5_waysOfSet_58 (8 : Int32) (by decide) ?_
      refine g_aload_n 1 dX5_waysOfSet_60 rfl ?_
      refine r_get (.ref (gX E + (b + 4))) f_X5_15_X5 rfl (kb_1 hb) (lt_b hb (by decide)) dX5_waysOfSet_61 (fun _ => rfl) ?_
      refine g_iload 5 dX5_waysOfSet_64 rfl ?_
      obtain ⟨h7, hp⟩ := hp
      refine g_iald (kb_4 hb) (lt_b hb (by decide)) h7 dX5_waysOfSet_66 ?_
      refine g_isub dX5_waysOfSet_67 ?_
      refine g_i2l dX5_waysOfSet_68 ?_
      refine g_lv (lv' := [(0, .ref (gX E + (b + 1))), (1, .int x1), (2, .int x2), (5, .int x5)]) [1, 2, 3, 5] rfl ?_
      exact w_X5_waysOfSet_69 b hb hd K5 PK5 hK5 x1 x2 x5 (((8 : Int32) - (v.1 (b + 4) x5.toNatClampNeg)).toInt64) x3 v hp hQ
    · have hQ := qn (P := gqJ Q v) h6 hQ
      have hp := hp.2 h6
      refine g_aload_n 1 dX5_waysOfSet_47 rfl ?_
      refine r_get (.ref (gX E + (b + 4))) f_X5_15_X5 rfl (kb_1 hb) (lt_b hb (by decide)) dX5_waysOfSet_48 (fun _ => rfl) ?_
      refine g_iload 5 dX5_waysOfSet_51 rfl ?_
      obtain ⟨h8, hp⟩ := hp
      refine g_iald (kb_4 hb) (lt_b hb (by decide)) h8 dX5_waysOfSet_53 ?_
      refine g_i2l dX5_waysOfSet_54 ?_
      refine g_goto 69 dX5_waysOfSet_55 (by decide) ?_
      refine g_lv (lv' := [(0, .ref (gX E + (b + 1))), (1, .int x1), (2, .int x2), (5, .int x5)]) [1, 2, 3, 5] rfl ?_
      exact w_X5_waysOfSet_69 b hb hd K5 PK5 hK5 x1 x2 x5 ((v.1 (b + 4) x5.toNatClampNeg).toInt64) x3 v hp hQ
def f_X5_waysOfSet_5 (b : Nat) : Nat → Int32 → Int32 → Int64 → Int32 → gV → Int64
  | 0, _, _, _, _, v => 0
  | n + 1, x1, x2, x3, x5, v => if (v.1 (b + 1) 1) ≤ x5 then x3 else (if ((x1 >>> (x5 &&& 31)) &&& (1 : Int32)) = (1 : Int32) then (f_X5_waysOfSet_29 b (fun x1 x2 x3 x5 v => f_X5_waysOfSet_5 b  n x1 x2 x3 x5 v) x1 x2 x3 x5 (1 : Int32) v) else (f_X5_waysOfSet_29 b (fun x1 x2 x3 x5 v => f_X5_waysOfSet_5 b  n x1 x2 x3 x5 v) x1 x2 x3 x5 (0 : Int32) v))
def p_X5_waysOfSet_5 (b : Nat) : Nat → Int32 → Int32 → Int64 → Int32 → gV → Prop
  | 0, _, _, _, _, _ => False
  | n + 1, x1, x2, x3, x5, v => (((v.1 (b + 1) 1) ≤ x5) → (True)) ∧ (¬ ((v.1 (b + 1) 1) ≤ x5) → (((((x1 >>> (x5 &&& 31)) &&& (1 : Int32)) = (1 : Int32)) → (p_X5_waysOfSet_29 b (fun x1 x2 x3 x5 v => f_X5_waysOfSet_5 b  n x1 x2 x3 x5 v) (fun x1 x2 x3 x5 v => p_X5_waysOfSet_5 b   n x1 x2 x3 x5 v) x1 x2 x3 x5 (1 : Int32) v)) ∧ (¬ (((x1 >>> (x5 &&& 31)) &&& (1 : Int32)) = (1 : Int32)) → (p_X5_waysOfSet_29 b (fun x1 x2 x3 x5 v => f_X5_waysOfSet_5 b  n x1 x2 x3 x5 v) (fun x1 x2 x3 x5 v => p_X5_waysOfSet_5 b   n x1 x2 x3 x5 v) x1 x2 x3 x5 (0 : Int32) v))))
set_option maxHeartbeats 4000000 in
set_option maxRecDepth 100000 in
theorem w_X5_waysOfSet_5 {E : gE} {d : Nat} {Q : gO → gS → Prop} (b : Nat) (hb : isBk b) (hd : 1 ≤ d) : ∀ (n : Nat) (x1 : Int32) (x2 : Int32) (x3 : Int64) (x5 : Int32) (v : gV), p_X5_waysOfSet_5 b   n x1 x2 x3 x5 v → gqJ Q v (f_X5_waysOfSet_5 b  n x1 x2 x3 x5 v) → gG E m_X5_waysOfSet d Q 0 0 (rS v) 5 [(0, .ref (gX E + (b + 1))), (1, .int x1), (2, .int x2), (3, .long x3), (5, .int x5)] [] := by
  intro n
  induction n with
  | zero => intro x1 x2 x3 x5 v hp; exact hp.elim
  | succ n ih =>
    intro x1 x2 x3 x5 v hp hQ
    refine g_iload 4 dX5_waysOfSet_5 rfl ?_
    refine g_aload_n 0 dX5_waysOfSet_7 rfl ?_
    refine r_get (.int (v.1 (b + 1) 1)) f_X5_71_X5 rfl (kb_1 hb) (lt_b hb (by decide)) dX5_waysOfSet_8 (fun _ => rfl) ?_
    refine g_icmp_ge 87 dX5_waysOfSet_11 (by decide) (fun h1 => ?_) (fun h1 => ?_)
    · have hQ := qp (P := gqJ Q v) h1 hQ
      have hp := hp.1 h1
      refine g_lload_n 3 dX5_waysOfSet_87 rfl ?_
      exact g_lret rfl dX5_waysOfSet_88 hQ
    · have hQ := qn (P := gqJ Q v) h1 hQ
      have hp := hp.2 h1
      refine g_iload_n 1 dX5_waysOfSet_14 rfl ?_
      refine g_iload 4 dX5_waysOfSet_15 rfl ?_
      refine g_ishr dX5_waysOfSet_17 ?_
      refine g_iconst dX5_waysOfSet_18 (1 : Int32) (by decide) ?_
      refine g_iand dX5_waysOfSet_19 ?_
      refine g_iconst dX5_waysOfSet_20 (1 : Int32) (by decide) ?_
      refine g_icmp_ne 28 dX5_waysOfSet_21 (by decide) (fun h2 => ?_) (fun h2 => ?_)
      · have hQ := qn (P := gqJ Q v) h2 hQ
        have hp := hp.2 h2
        refine g_iconst dX5_waysOfSet_28 (0 : Int32) (by decide) ?_
        exact w_X5_waysOfSet_29 b hb hd (fun x1 x2 x3 x5 v => f_X5_waysOfSet_5 b  n x1 x2 x3 x5 v) (fun x1 x2 x3 x5 v => p_X5_waysOfSet_5 b   n x1 x2 x3 x5 v) ih x1 x2 x3 x5 (0 : Int32) v hp hQ
      · have hQ := qp (P := gqJ Q v) h2 hQ
        have hp := hp.1 h2
        refine g_iconst dX5_waysOfSet_24 (1 : Int32) (by decide) ?_
        refine g_goto 29 dX5_waysOfSet_25 (by decide) ?_
        exact w_X5_waysOfSet_29 b hb hd (fun x1 x2 x3 x5 v => f_X5_waysOfSet_5 b  n x1 x2 x3 x5 v) (fun x1 x2 x3 x5 v => p_X5_waysOfSet_5 b   n x1 x2 x3 x5 v) ih x1 x2 x3 x5 (1 : Int32) v hp hQ
def f_X5_waysOfSet_0 (b : Nat) (x1 : Int32) (x2 : Int32) (v : gV) : Int64 := f_X5_waysOfSet_5 b  5000 x1 x2 (1 : Int64) (0 : Int32) v
def p_X5_waysOfSet_0 (b : Nat) (x1 : Int32) (x2 : Int32) (v : gV) : Prop := p_X5_waysOfSet_5 b   5000 x1 x2 (1 : Int64) (0 : Int32) v
set_option maxHeartbeats 4000000 in
set_option maxRecDepth 100000 in
theorem w_X5_waysOfSet_0 {E : gE} {d : Nat} {Q : gO → gS → Prop} (b : Nat) (hb : isBk b) (hd : 1 ≤ d) (x1 : Int32) (x2 : Int32) (v : gV) (hp : p_X5_waysOfSet_0 b   x1 x2 v) (hQ : gqJ Q v (f_X5_waysOfSet_0 b  x1 x2 v)) : gG E m_X5_waysOfSet d Q 0 0 (rS v) 0 [(0, .ref (gX E + (b + 1))), (1, .int x1), (2, .int x2)] [] := by
  refine g_lconst dX5_waysOfSet_0 (1 : Int64) (by decide) ?_
  refine g_lstore_n [(3, .long ((1 : Int64))), (0, .ref (gX E + (b + 1))), (1, .int x1), (2, .int x2)] dX5_waysOfSet_1 rfl (by decide) rfl ?_
  refine g_iconst dX5_waysOfSet_2 (0 : Int32) (by decide) ?_
  refine g_istore [(5, .int ((0 : Int32))), (3, .long ((1 : Int64))), (0, .ref (gX E + (b + 1))), (1, .int x1), (2, .int x2)] dX5_waysOfSet_3 (by decide) rfl ?_
  refine g_lv (lv' := [(0, .ref (gX E + (b + 1))), (1, .int x1), (2, .int x2), (3, .long ((1 : Int64))), (5, .int ((0 : Int32)))]) [2, 3, 4, 1, 0] rfl ?_
  exact w_X5_waysOfSet_5 b hb hd    5000 x1 x2 (1 : Int64) (0 : Int32) v hp hQ
def f_X5_waysOfSet (b : Nat) (x1 : Int32) (x2 : Int32) (v : gV) : Int64 := f_X5_waysOfSet_0 b x1 x2 v
def p_X5_waysOfSet (b : Nat) (x1 : Int32) (x2 : Int32) (v : gV) : Prop := p_X5_waysOfSet_0 b x1 x2 v
theorem c_X5_waysOfSet {E : gE} {d : Nat} (b : Nat) (hb : isBk b) (hd : 1 ≤ d) (x1 : Int32) (x2 : Int32) (v : gV) (hp : p_X5_waysOfSet b x1 x2 v) : CT E m_X5_waysOfSet d 0 0 [.ref (gX E + (b + 1)), .int x1, .int x2] (rS v) (Cq (.inl (some (.long (f_X5_waysOfSet b x1 x2 v)))) v) := CT.of ok_X5_waysOfSet rfl (Nat.le_of_ble_eq_true rfl) (w_X5_waysOfSet_0 b hb hd x1 x2 v hp ⟨rfl, rfl⟩)
def f_X6_countAhead_P_24 (b : Nat) (K4 : Int32 → Int32 → Int32 → gV → Int32)  (x1 : Int32) (x2 : Int32) (x3 : Int32) (v : gV) : Int32 := K4 x1 x2 (x3 + 1) v
def p_X6_countAhead_P_24 (b : Nat) (K4 : Int32 → Int32 → Int32 → gV → Int32)  (PK4 : Int32 → Int32 → Int32 → gV → Prop)  (x1 : Int32) (x2 : Int32) (x3 : Int32) (v : gV) : Prop := PK4 x1 x2 (x3 + 1) v
set_option maxHeartbeats 4000000 in
set_option maxRecDepth 100000 in
theorem w_X6_countAhead_P_24 {E : gE} {d : Nat} {Q : gO → gS → Prop} (b : Nat) (hb : isBk b) (hd : 1 ≤ d) (K4 : Int32 → Int32 → Int32 → gV → Int32)  (PK4 : Int32 → Int32 → Int32 → gV → Prop)  (hK4 : ∀ (x1 : Int32) (x2 : Int32) (x3 : Int32) (v : gV), PK4 x1 x2 x3 v → gqI Q v (K4 x1 x2 x3 v) → gG E m_X6_countAhead d Q 0 0 (rS v) 4 [(0, .ref (gX E + (b + 1))), (1, .int x1), (2, .int x2), (3, .int x3)] [])  (x1 : Int32) (x2 : Int32) (x3 : Int32) (v : gV) (hp : p_X6_countAhead_P_24 b K4 PK4 x1 x2 x3 v) (hQ : gqI Q v (f_X6_countAhead_P_24 b K4 x1 x2 x3 v)) : gG E m_X6_countAhead d Q 0 0 (rS v) 24 [(0, .ref (gX E + (b + 1))), (1, .int x1), (2, .int x2), (3, .int x3)] [] := by
  refine g_iinc 3 (x3 + 1) [(3, .int (x3 + 1)), (0, .ref (gX E + (b + 1))), (1, .int x1), (2, .int x2)] dX6_countAhead_24 rfl rfl (by decide) rfl ?_
  refine g_goto 4 dX6_countAhead_27 (by decide) ?_
  refine g_lv (lv' := [(0, .ref (gX E + (b + 1))), (1, .int x1), (2, .int x2), (3, .int (x3 + 1))]) [1, 2, 3, 0] rfl ?_
  exact hK4 x1 x2 (x3 + 1) v hp hQ
def f_X6_countAhead_P_4 (b : Nat) : Nat → Int32 → Int32 → Int32 → gV → Int32
  | 0, _, _, _, v => 0
  | n + 1, x1, x2, x3, v => if (v.1 (b + 1) 1) ≤ x3 then x2 else (if (f_X5_isAhead b x3 x1 v) = 0 then (f_X6_countAhead_P_24 b (fun x1 x2 x3 v => f_X6_countAhead_P_4 b  n x1 x2 x3 v) x1 x2 x3 v) else (f_X6_countAhead_P_24 b (fun x1 x2 x3 v => f_X6_countAhead_P_4 b  n x1 x2 x3 v) x1 (x2 + 1) x3 v))
def p_X6_countAhead_P_4 (b : Nat) : Nat → Int32 → Int32 → Int32 → gV → Prop
  | 0, _, _, _, _ => False
  | n + 1, x1, x2, x3, v => (((v.1 (b + 1) 1) ≤ x3) → (True)) ∧ (¬ ((v.1 (b + 1) 1) ≤ x3) → ((p_X5_isAhead b x3 x1 v) ∧ ((((f_X5_isAhead b x3 x1 v) = 0) → (p_X6_countAhead_P_24 b (fun x1 x2 x3 v => f_X6_countAhead_P_4 b  n x1 x2 x3 v) (fun x1 x2 x3 v => p_X6_countAhead_P_4 b   n x1 x2 x3 v) x1 x2 x3 v)) ∧ (¬ ((f_X5_isAhead b x3 x1 v) = 0) → (p_X6_countAhead_P_24 b (fun x1 x2 x3 v => f_X6_countAhead_P_4 b  n x1 x2 x3 v) (fun x1 x2 x3 v => p_X6_countAhead_P_4 b   n x1 x2 x3 v) x1 (x2 + 1) x3 v)))))
set_option maxHeartbeats 4000000 in
set_option maxRecDepth 100000 in
theorem w_X6_countAhead_P_4 {E : gE} {d : Nat} {Q : gO → gS → Prop} (b : Nat) (hb : isBk b) (hd : 1 ≤ d) : ∀ (n : Nat) (x1 : Int32) (x2 : Int32) (x3 : Int32) (v : gV), p_X6_countAhead_P_4 b   n x1 x2 x3 v → gqI Q v (f_X6_countAhead_P_4 b  n x1 x2 x3 v) → gG E m_X6_countAhead d Q 0 0 (rS v) 4 [(0, .ref (gX E + (b + 1))), (1, .int x1), (2, .int x2), (3, .int x3)] [] := by
  intro n
  induction n with
  | zero => intro x1 x2 x3 v hp; exact hp.elim
  | succ n ih =>
    intro x1 x2 x3 v hp hQ
    refine g_iload_n 3 dX6_countAhead_4 rfl ?_
    refine g_aload_n 0 dX6_countAhead_5 rfl ?_
    refine r_get (.int (v.1 (b + 1) 1)) f_X6_19_X5 rfl (kb_1 hb) (lt_b hb (by decide)) dX6_countAhead_6 (fun _ => rfl) ?_
    refine g_icmp_ge 30 dX6_countAhead_9 (by decide) (fun h1 => ?_) (fun h1 => ?_)
    · have hQ := qp (P := gqI Q v) h1 hQ
      have hp := hp.1 h1
      refine g_iload_n 2 dX6_countAhead_30 rfl ?_
      exact g_iret rfl dX6_countAhead_31 hQ
    · have hQ := qn (P := gqI Q v) h1 hQ
      have hp := hp.2 h1
      refine g_aload_n 0 dX6_countAhead_12 rfl ?_
      refine g_iload_n 3 dX6_countAhead_13 rfl ?_
      refine g_iload_n 1 dX6_countAhead_14 rfl ?_
      obtain ⟨h2, hp⟩ := hp
      refine g_callA (rest := []) s_X6_51_X5 rfl (c_X5_isAhead (E := E) (d := d - 1) b hb (by omega) x3 x1 v h2) (kb_1 hb) (lt_b hb (by decide)) rfl rfl (Nat.le_of_ble_eq_true rfl) (by omega) (by decide) (by decide) dX6_countAhead_15 (adV ?_) axN
      refine g_if_eq 24 dX6_countAhead_18 (by decide) (fun h3 => ?_) (fun h3 => ?_)
      · have hQ := qp (P := gqI Q v) h3 hQ
        have hp := hp.1 h3
        exact w_X6_countAhead_P_24 b hb hd (fun x1 x2 x3 v => f_X6_countAhead_P_4 b  n x1 x2 x3 v) (fun x1 x2 x3 v => p_X6_countAhead_P_4 b   n x1 x2 x3 v) ih x1 x2 x3 v hp hQ
      · have hQ := qn (P := gqI Q v) h3 hQ
        have hp := hp.2 h3
        refine g_iinc 2 (x2 + 1) [(2, .int (x2 + 1)), (0, .ref (gX E + (b + 1))), (1, .int x1), (3, .int x3)] dX6_countAhead_21 rfl rfl (by decide) rfl ?_
        refine g_lv (lv' := [(0, .ref (gX E + (b + 1))), (1, .int x1), (2, .int (x2 + 1)), (3, .int x3)]) [1, 2, 0, 3] rfl ?_
        exact w_X6_countAhead_P_24 b hb hd (fun x1 x2 x3 v => f_X6_countAhead_P_4 b  n x1 x2 x3 v) (fun x1 x2 x3 v => p_X6_countAhead_P_4 b   n x1 x2 x3 v) ih x1 (x2 + 1) x3 v hp hQ
def f_X6_countAhead_P_0 (b : Nat) (x1 : Int32) (v : gV) : Int32 := f_X6_countAhead_P_4 b  5000 x1 (0 : Int32) (0 : Int32) v
def p_X6_countAhead_P_0 (b : Nat) (x1 : Int32) (v : gV) : Prop := p_X6_countAhead_P_4 b   5000 x1 (0 : Int32) (0 : Int32) v
set_option maxHeartbeats 4000000 in
set_option maxRecDepth 100000 in
theorem w_X6_countAhead_P_0 {E : gE} {d : Nat} {Q : gO → gS → Prop} (b : Nat) (hb : isBk b) (hd : 1 ≤ d) (x1 : Int32) (v : gV) (hp : p_X6_countAhead_P_0 b   x1 v) (hQ : gqI Q v (f_X6_countAhead_P_0 b  x1 v)) : gG E m_X6_countAhead d Q 0 0 (rS v) 0 [(0, .ref (gX E + (b + 1))), (1, .int x1)] [] := by
  refine g_iconst dX6_countAhead_0 (0 : Int32) (by decide) ?_
  refine g_istore_n [(2, .int ((0 : Int32))), (0, .ref (gX E + (b + 1))), (1, .int x1)] dX6_countAhead_1 rfl (by decide) rfl ?_
  refine g_iconst dX6_countAhead_2 (0 : Int32) (by decide) ?_
  refine g_istore_n [(3, .int ((0 : Int32))), (2, .int ((0 : Int32))), (0, .ref (gX E + (b + 1))), (1, .int x1)] dX6_countAhead_3 rfl (by decide) rfl ?_
  refine g_lv (lv' := [(0, .ref (gX E + (b + 1))), (1, .int x1), (2, .int ((0 : Int32))), (3, .int ((0 : Int32)))]) [2, 3, 1, 0] rfl ?_
  exact w_X6_countAhead_P_4 b hb hd    5000 x1 (0 : Int32) (0 : Int32) v hp hQ
def f_X6_countAhead_P (b : Nat) (x1 : Int32) (v : gV) : Int32 := f_X6_countAhead_P_0 b x1 v
def p_X6_countAhead_P (b : Nat) (x1 : Int32) (v : gV) : Prop := p_X6_countAhead_P_0 b x1 v
theorem c_X6_countAhead_P {E : gE} {d : Nat} (b : Nat) (hb : isBk b) (hd : 1 ≤ d) (x1 : Int32) (v : gV) (hp : p_X6_countAhead_P b x1 v) : CT E m_X6_countAhead d 0 0 [.ref (gX E + (b + 1)), .int x1] (rS v) (Cq (.inl (some (.int (f_X6_countAhead_P b x1 v)))) v) := CT.of ok_X6_countAhead rfl (Nat.le_of_ble_eq_true rfl) (w_X6_countAhead_P_0 b hb hd x1 v hp ⟨rfl, rfl⟩)
def f_X6_countAhead_C_24 (b : Nat) (K4 : Int32 → Int32 → Int32 → gV → Int32)  (x1 : Int32) (x2 : Int32) (x3 : Int32) (v : gV) : Int32 := K4 x1 x2 (x3 + 1) v
def p_X6_countAhead_C_24 (b : Nat) (K4 : Int32 → Int32 → Int32 → gV → Int32)  (PK4 : Int32 → Int32 → Int32 → gV → Prop)  (x1 : Int32) (x2 : Int32) (x3 : Int32) (v : gV) : Prop := PK4 x1 x2 (x3 + 1) v
set_option maxHeartbeats 4000000 in
set_option maxRecDepth 100000 in
theorem w_X6_countAhead_C_24 {E : gE} {d : Nat} {Q : gO → gS → Prop} (b : Nat) (hb : isBk b) (hd : 2 ≤ d) (K4 : Int32 → Int32 → Int32 → gV → Int32)  (PK4 : Int32 → Int32 → Int32 → gV → Prop)  (hK4 : ∀ (x1 : Int32) (x2 : Int32) (x3 : Int32) (v : gV), PK4 x1 x2 x3 v → gqI Q v (K4 x1 x2 x3 v) → gG E m_X6_countAhead d Q 0 0 (rS v) 4 [(0, .ref (gX E + (b + 10))), (1, .int x1), (2, .int x2), (3, .int x3)] [])  (x1 : Int32) (x2 : Int32) (x3 : Int32) (v : gV) (hp : p_X6_countAhead_C_24 b K4 PK4 x1 x2 x3 v) (hQ : gqI Q v (f_X6_countAhead_C_24 b K4 x1 x2 x3 v)) : gG E m_X6_countAhead d Q 0 0 (rS v) 24 [(0, .ref (gX E + (b + 10))), (1, .int x1), (2, .int x2), (3, .int x3)] [] := by
  refine g_iinc 3 (x3 + 1) [(3, .int (x3 + 1)), (0, .ref (gX E + (b + 10))), (1, .int x1), (2, .int x2)] dX6_countAhead_24 rfl rfl (by decide) rfl ?_
  refine g_goto 4 dX6_countAhead_27 (by decide) ?_
  refine g_lv (lv' := [(0, .ref (gX E + (b + 10))), (1, .int x1), (2, .int x2), (3, .int (x3 + 1))]) [1, 2, 3, 0] rfl ?_
  exact hK4 x1 x2 (x3 + 1) v hp hQ
def f_X6_countAhead_C_4 (b : Nat) : Nat → Int32 → Int32 → Int32 → gV → Int32
  | 0, _, _, _, v => 0
  | n + 1, x1, x2, x3, v => if (v.1 (b + 10) 1) ≤ x3 then x2 else (if (f_X2_isAhead b x3 x1 v) = 0 then (f_X6_countAhead_C_24 b (fun x1 x2 x3 v => f_X6_countAhead_C_4 b  n x1 x2 x3 v) x1 x2 x3 v) else (f_X6_countAhead_C_24 b (fun x1 x2 x3 v => f_X6_countAhead_C_4 b  n x1 x2 x3 v) x1 (x2 + 1) x3 v))
def p_X6_countAhead_C_4 (b : Nat) : Nat → Int32 → Int32 → Int32 → gV → Prop
  | 0, _, _, _, _ => False
  | n + 1, x1, x2, x3, v => (((v.1 (b + 10) 1) ≤ x3) → (True)) ∧ (¬ ((v.1 (b + 10) 1) ≤ x3) → ((p_X2_isAhead b x3 x1 v) ∧ ((((f_X2_isAhead b x3 x1 v) = 0) → (p_X6_countAhead_C_24 b (fun x1 x2 x3 v => f_X6_countAhead_C_4 b  n x1 x2 x3 v) (fun x1 x2 x3 v => p_X6_countAhead_C_4 b   n x1 x2 x3 v) x1 x2 x3 v)) ∧ (¬ ((f_X2_isAhead b x3 x1 v) = 0) → (p_X6_countAhead_C_24 b (fun x1 x2 x3 v => f_X6_countAhead_C_4 b  n x1 x2 x3 v) (fun x1 x2 x3 v => p_X6_countAhead_C_4 b   n x1 x2 x3 v) x1 (x2 + 1) x3 v)))))
set_option maxHeartbeats 4000000 in
set_option maxRecDepth 100000 in
theorem w_X6_countAhead_C_4 {E : gE} {d : Nat} {Q : gO → gS → Prop} (b : Nat) (hb : isBk b) (hd : 2 ≤ d) : ∀ (n : Nat) (x1 : Int32) (x2 : Int32) (x3 : Int32) (v : gV), p_X6_countAhead_C_4 b   n x1 x2 x3 v → gqI Q v (f_X6_countAhead_C_4 b  n x1 x2 x3 v) → gG E m_X6_countAhead d Q 0 0 (rS v) 4 [(0, .ref (gX E + (b + 10))), (1, .int x1), (2, .int x2), (3, .int x3)] [] := by
  intro n
  induction n with
  | zero => intro x1 x2 x3 v hp; exact hp.elim
  | succ n ih =>
    intro x1 x2 x3 v hp hQ
    refine g_iload_n 3 dX6_countAhead_4 rfl ?_
    refine g_aload_n 0 dX6_countAhead_5 rfl ?_
    refine r_get (.int (v.1 (b + 10) 1)) f_X6_19_X2 rfl (kb_10 hb) (lt_b hb (by decide)) dX6_countAhead_6 (fun _ => rfl) ?_
    refine g_icmp_ge 30 dX6_countAhead_9 (by decide) (fun h1 => ?_) (fun h1 => ?_)
    · have hQ := qp (P := gqI Q v) h1 hQ
      have hp := hp.1 h1
      refine g_iload_n 2 dX6_countAhead_30 rfl ?_
      exact g_iret rfl dX6_countAhead_31 hQ
    · have hQ := qn (P := gqI Q v) h1 hQ
      have hp := hp.2 h1
      refine g_aload_n 0 dX6_countAhead_12 rfl ?_
      refine g_iload_n 3 dX6_countAhead_13 rfl ?_
      refine g_iload_n 1 dX6_countAhead_14 rfl ?_
      obtain ⟨h2, hp⟩ := hp
      refine g_callA (rest := []) s_X6_51_X2 rfl (c_X2_isAhead (E := E) (d := d - 1) b hb (by omega) x3 x1 v h2) (kb_10 hb) (lt_b hb (by decide)) rfl rfl (Nat.le_of_ble_eq_true rfl) (by omega) (by decide) (by decide) dX6_countAhead_15 (adV ?_) axN
      refine g_if_eq 24 dX6_countAhead_18 (by decide) (fun h3 => ?_) (fun h3 => ?_)
      · have hQ := qp (P := gqI Q v) h3 hQ
        have hp := hp.1 h3
        exact w_X6_countAhead_C_24 b hb hd (fun x1 x2 x3 v => f_X6_countAhead_C_4 b  n x1 x2 x3 v) (fun x1 x2 x3 v => p_X6_countAhead_C_4 b   n x1 x2 x3 v) ih x1 x2 x3 v hp hQ
      · have hQ := qn (P := gqI Q v) h3 hQ
        have hp := hp.2 h3
        refine g_iinc 2 (x2 + 1) [(2, .int (x2 + 1)), (0, .ref (gX E + (b + 10))), (1, .int x1), (3, .int x3)] dX6_countAhead_21 rfl rfl (by decide) rfl ?_
        refine g_lv (lv' := [(0, .ref (gX E + (b + 10))), (1, .int x1), (2, .int (x2 + 1)), (3, .int x3)]) [1, 2, 0, 3] rfl ?_
        exact w_X6_countAhead_C_24 b hb hd (fun x1 x2 x3 v => f_X6_countAhead_C_4 b  n x1 x2 x3 v) (fun x1 x2 x3 v => p_X6_countAhead_C_4 b   n x1 x2 x3 v) ih x1 (x2 + 1) x3 v hp hQ
def f_X6_countAhead_C_0 (b : Nat) (x1 : Int32) (v : gV) : Int32 := f_X6_countAhead_C_4 b  5000 x1 (0 : Int32) (0 : Int32) v
def p_X6_countAhead_C_0 (b : Nat) (x1 : Int32) (v : gV) : Prop := p_X6_countAhead_C_4 b   5000 x1 (0 : Int32) (0 : Int32) v
set_option maxHeartbeats 4000000 in
set_option maxRecDepth 100000 in
theorem w_X6_countAhead_C_0 {E : gE} {d : Nat} {Q : gO → gS → Prop} (b : Nat) (hb : isBk b) (hd : 2 ≤ d) (x1 : Int32) (v : gV) (hp : p_X6_countAhead_C_0 b   x1 v) (hQ : gqI Q v (f_X6_countAhead_C_0 b  x1 v)) : gG E m_X6_countAhead d Q 0 0 (rS v) 0 [(0, .ref (gX E + (b + 10))), (1, .int x1)] [] := by
  refine g_iconst dX6_countAhead_0 (0 : Int32) (by decide) ?_
  refine g_istore_n [(2, .int ((0 : Int32))), (0, .ref (gX E + (b + 10))), (1, .int x1)] dX6_countAhead_1 rfl (by decide) rfl ?_
  refine g_iconst dX6_countAhead_2 (0 : Int32) (by decide) ?_
  refine g_istore_n [(3, .int ((0 : Int32))), (2, .int ((0 : Int32))), (0, .ref (gX E + (b + 10))), (1, .int x1)] dX6_countAhead_3 rfl (by decide) rfl ?_
  refine g_lv (lv' := [(0, .ref (gX E + (b + 10))), (1, .int x1), (2, .int ((0 : Int32))), (3, .int ((0 : Int32)))]) [2, 3, 1, 0] rfl ?_
  exact w_X6_countAhead_C_4 b hb hd    5000 x1 (0 : Int32) (0 : Int32) v hp hQ
def f_X6_countAhead_C (b : Nat) (x1 : Int32) (v : gV) : Int32 := f_X6_countAhead_C_0 b x1 v
def p_X6_countAhead_C (b : Nat) (x1 : Int32) (v : gV) : Prop := p_X6_countAhead_C_0 b x1 v
theorem c_X6_countAhead_C {E : gE} {d : Nat} (b : Nat) (hb : isBk b) (hd : 2 ≤ d) (x1 : Int32) (v : gV) (hp : p_X6_countAhead_C b x1 v) : CT E m_X6_countAhead d 0 0 [.ref (gX E + (b + 10)), .int x1] (rS v) (Cq (.inl (some (.int (f_X6_countAhead_C b x1 v)))) v) := CT.of ok_X6_countAhead rfl (Nat.le_of_ble_eq_true rfl) (w_X6_countAhead_C_0 b hb hd x1 v hp ⟨rfl, rfl⟩)
def f_X7_isPlaceholder_23  (s0 : Int32) (v : gV) : Int32 := s0
def p_X7_isPlaceholder_23  (s0 : Int32) (v : gV) : Prop := (s0 = 0 ∨ s0 = 1) ∧ (True)
set_option maxHeartbeats 4000000 in
set_option maxRecDepth 100000 in
theorem w_X7_isPlaceholder_23 {E : gE} {d : Nat} {Q : gO → gS → Prop}   (hd : 0 ≤ d) (s0 : Int32) (v : gV) (hp : p_X7_isPlaceholder_23   s0 v) (hQ : gqI Q v (f_X7_isPlaceholder_23  s0 v)) : gG E m_X7_isPlaceholder d Q 0 0 (rS v) 23 [] [.int s0] := by
  obtain ⟨h2, hp⟩ := hp
  exact g_zret rfl (nz h2) dX7_isPlaceholder_23 hQ
def f_X7_isPlaceholder_18   (v : gV) : Int32 := f_X7_isPlaceholder_23  (1 : Int32) v
def p_X7_isPlaceholder_18   (v : gV) : Prop := p_X7_isPlaceholder_23   (1 : Int32) v
set_option maxHeartbeats 4000000 in
set_option maxRecDepth 100000 in
theorem w_X7_isPlaceholder_18 {E : gE} {d : Nat} {Q : gO → gS → Prop}   (hd : 0 ≤ d)  (v : gV) (hp : p_X7_isPlaceholder_18    v) (hQ : gqI Q v (f_X7_isPlaceholder_18   v)) : gG E m_X7_isPlaceholder d Q 0 0 (rS v) 18 [] [] := by
  refine g_iconst dX7_isPlaceholder_18 (1 : Int32) (by decide) ?_
  refine g_goto 23 dX7_isPlaceholder_19 (by decide) ?_
  exact w_X7_isPlaceholder_23  hd    (1 : Int32) v hp hQ
def f_X7_isPlaceholder_0  (x0 : Int32) (v : gV) : Int32 := if x0 = (78 : Int32) then (f_X7_isPlaceholder_18   v) else (if x0 = (68 : Int32) then (f_X7_isPlaceholder_18   v) else (if x0 = (67 : Int32) then (f_X7_isPlaceholder_18   v) else (f_X7_isPlaceholder_23  (0 : Int32) v)))
def p_X7_isPlaceholder_0  (x0 : Int32) (v : gV) : Prop := ((x0 = (78 : Int32)) → (p_X7_isPlaceholder_18    v)) ∧ (¬ (x0 = (78 : Int32)) → (((x0 = (68 : Int32)) → (p_X7_isPlaceholder_18    v)) ∧ (¬ (x0 = (68 : Int32)) → (((x0 = (67 : Int32)) → (p_X7_isPlaceholder_18    v)) ∧ (¬ (x0 = (67 : Int32)) → (p_X7_isPlaceholder_23   (0 : Int32) v))))))
set_option maxHeartbeats 4000000 in
set_option maxRecDepth 100000 in
theorem w_X7_isPlaceholder_0 {E : gE} {d : Nat} {Q : gO → gS → Prop}   (hd : 0 ≤ d) (x0 : Int32) (v : gV) (hp : p_X7_isPlaceholder_0   x0 v) (hQ : gqI Q v (f_X7_isPlaceholder_0  x0 v)) : gG E m_X7_isPlaceholder d Q 0 0 (rS v) 0 [(0, .int x0)] [] := by
  refine g_iload_n 0 dX7_isPlaceholder_0 rfl ?_
  refine g_bipush dX7_isPlaceholder_1 (78 : Int32) (by decide) ?_
  refine g_icmp_eq 18 dX7_isPlaceholder_3 (by decide) (fun h1 => ?_) (fun h1 => ?_)
  · have hQ := qp (P := gqI Q v) h1 hQ
    have hp := hp.1 h1
    refine g_lv (lv' := []) [] rfl ?_
    exact w_X7_isPlaceholder_18  hd     v hp hQ
  · have hQ := qn (P := gqI Q v) h1 hQ
    have hp := hp.2 h1
    refine g_iload_n 0 dX7_isPlaceholder_6 rfl ?_
    refine g_bipush dX7_isPlaceholder_7 (68 : Int32) (by decide) ?_
    refine g_icmp_eq 18 dX7_isPlaceholder_9 (by decide) (fun h3 => ?_) (fun h3 => ?_)
    · have hQ := qp (P := gqI Q v) h3 hQ
      have hp := hp.1 h3
      refine g_lv (lv' := []) [] rfl ?_
      exact w_X7_isPlaceholder_18  hd     v hp hQ
    · have hQ := qn (P := gqI Q v) h3 hQ
      have hp := hp.2 h3
      refine g_iload_n 0 dX7_isPlaceholder_12 rfl ?_
      refine g_bipush dX7_isPlaceholder_13 (67 : Int32) (by decide) ?_
      refine g_icmp_ne 22 dX7_isPlaceholder_15 (by decide) (fun h4 => ?_) (fun h4 => ?_)
      · have hQ := qn (P := gqI Q v) h4 hQ
        have hp := hp.2 h4
        refine g_iconst dX7_isPlaceholder_22 (0 : Int32) (by decide) ?_
        refine g_lv (lv' := []) [] rfl ?_
        exact w_X7_isPlaceholder_23  hd    (0 : Int32) v hp hQ
      · have hQ := qp (P := gqI Q v) h4 hQ
        have hp := hp.1 h4
        refine g_lv (lv' := []) [] rfl ?_
        exact w_X7_isPlaceholder_18  hd     v hp hQ
def f_X7_isPlaceholder  (x0 : Int32) (v : gV) : Int32 := f_X7_isPlaceholder_0 x0 v
def p_X7_isPlaceholder  (x0 : Int32) (v : gV) : Prop := p_X7_isPlaceholder_0 x0 v
theorem c_X7_isPlaceholder {E : gE} {d : Nat}   (hd : 0 ≤ d) (x0 : Int32) (v : gV) (hp : p_X7_isPlaceholder x0 v) : CT E m_X7_isPlaceholder d 0 0 [.int x0] (rS v) (Cq (.inl (some (.int (f_X7_isPlaceholder x0 v)))) v) := CT.of ok_X7_isPlaceholder rfl (Nat.le_of_ble_eq_true rfl) (w_X7_isPlaceholder_0  hd x0 v hp ⟨rfl, rfl⟩)
def f_X8_giveBack_22 (b : Nat) (j1 : Nat) (K2 : Int32 → gV → gV)  (x2 : Int32) (v : gV) : gV := K2 (x2 + 1) v
def p_X8_giveBack_22 (b : Nat) (j1 : Nat) (K2 : Int32 → gV → gV)  (PK2 : Int32 → gV → Prop)  (x2 : Int32) (v : gV) : Prop := PK2 (x2 + 1) v
set_option maxHeartbeats 4000000 in
set_option maxRecDepth 100000 in
theorem w_X8_giveBack_22 {E : gE} {d : Nat} {Q : gO → gS → Prop} (b : Nat) (j1 : Nat) (hb : isBk b) (hk1 : kd j1 = (1, 4)) (hj1 : j1 < 572) (hd : 0 ≤ d) (K2 : Int32 → gV → gV)  (PK2 : Int32 → gV → Prop)  (hK2 : ∀ (x2 : Int32) (v : gV), PK2 x2 v → gqV Q (K2 x2 v) → gG E m_X8_giveBack d Q 0 0 (rS v) 2 [(0, .ref (gX E + (b + 30))), (1, .ref (gX E + j1)), (2, .int x2)] [])  (x2 : Int32) (v : gV) (hp : p_X8_giveBack_22 b j1 K2 PK2 x2 v) (hQ : gqV Q (f_X8_giveBack_22 b j1 K2 x2 v)) : gG E m_X8_giveBack d Q 0 0 (rS v) 22 [(0, .ref (gX E + (b + 30))), (1, .ref (gX E + j1)), (2, .int x2)] [] := by
  refine g_iinc 2 (x2 + 1) [(2, .int (x2 + 1)), (0, .ref (gX E + (b + 30))), (1, .ref (gX E + j1))] dX8_giveBack_22 rfl rfl (by decide) rfl ?_
  refine g_goto 2 dX8_giveBack_25 (by decide) ?_
  refine g_lv (lv' := [(0, .ref (gX E + (b + 30))), (1, .ref (gX E + j1)), (2, .int (x2 + 1))]) [1, 2, 0] rfl ?_
  exact hK2 (x2 + 1) v hp hQ
def f_X8_giveBack_2 (b : Nat) (j1 : Nat) : Nat → Int32 → gV → gV
  | 0, _, v => v
  | n + 1, x2, v => if (v.1 (b + 30) 6) ≤ x2 then v else (f_X8_giveBack_22 b j1 (fun x2 v => f_X8_giveBack_2 b j1  n x2 v) x2 (vM v (b + 33) x2.toNatClampNeg ((v.1 (b + 33) x2.toNatClampNeg) + (v.1 j1 x2.toNatClampNeg))))
def p_X8_giveBack_2 (b : Nat) (j1 : Nat) : Nat → Int32 → gV → Prop
  | 0, _, _ => False
  | n + 1, x2, v => (((v.1 (b + 30) 6) ≤ x2) → (True)) ∧ (¬ ((v.1 (b + 30) 6) ≤ x2) → ((vp_in x2 4) ∧ ((vp_in x2 4) ∧ ((vp_in x2 4) ∧ (p_X8_giveBack_22 b j1 (fun x2 v => f_X8_giveBack_2 b j1  n x2 v) (fun x2 v => p_X8_giveBack_2 b j1   n x2 v) x2 (vM v (b + 33) x2.toNatClampNeg ((v.1 (b + 33) x2.toNatClampNeg) + (v.1 j1 x2.toNatClampNeg))))))))
set_option maxHeartbeats 4000000 in
set_option maxRecDepth 100000 in
theorem w_X8_giveBack_2 {E : gE} {d : Nat} {Q : gO → gS → Prop} (b : Nat) (j1 : Nat) (hb : isBk b) (hk1 : kd j1 = (1, 4)) (hj1 : j1 < 572) (hd : 0 ≤ d) : ∀ (n : Nat) (x2 : Int32) (v : gV), p_X8_giveBack_2 b j1   n x2 v → gqV Q (f_X8_giveBack_2 b j1  n x2 v) → gG E m_X8_giveBack d Q 0 0 (rS v) 2 [(0, .ref (gX E + (b + 30))), (1, .ref (gX E + j1)), (2, .int x2)] [] := by
  intro n
  induction n with
  | zero => intro x2 v hp; exact hp.elim
  | succ n ih =>
    intro x2 v hp hQ
    refine g_iload_n 2 dX8_giveBack_2 rfl ?_
    refine g_aload_n 0 dX8_giveBack_3 rfl ?_
    refine r_get (.int (v.1 (b + 30) 6)) f_X8_34_X8 rfl (kb_30 hb) (lt_b hb (by decide)) dX8_giveBack_4 (fun _ => rfl) ?_
    refine g_icmp_ge 28 dX8_giveBack_7 (by decide) (fun h1 => ?_) (fun h1 => ?_)
    · have hQ := qp (P := gqV Q) h1 hQ
      have hp := hp.1 h1
      exact g_vret rfl dX8_giveBack_28 hQ
    · have hQ := qn (P := gqV Q) h1 hQ
      have hp := hp.2 h1
      refine g_aload_n 0 dX8_giveBack_10 rfl ?_
      refine r_get (.ref (gX E + (b + 33))) f_X8_18_X8 rfl (kb_30 hb) (lt_b hb (by decide)) dX8_giveBack_11 (fun _ => rfl) ?_
      refine g_iload_n 2 dX8_giveBack_14 rfl ?_
      refine g_dup2 dX8_giveBack_15 rfl rfl ?_
      obtain ⟨h2, hp⟩ := hp
      refine g_iald (kb_33 hb) (lt_b hb (by decide)) h2 dX8_giveBack_16 ?_
      refine g_aload_n 1 dX8_giveBack_17 rfl ?_
      refine g_iload_n 2 dX8_giveBack_18 rfl ?_
      obtain ⟨h3, hp⟩ := hp
      refine g_iald hk1 hj1 h3 dX8_giveBack_19 ?_
      refine g_iadd dX8_giveBack_20 ?_
      obtain ⟨h4, hp⟩ := hp
      refine r_iast (kb_33 hb) (lt_b hb (by decide)) h4 dX8_giveBack_21 ?_
      exact w_X8_giveBack_22 b j1 hb hk1 hj1 hd (fun x2 v => f_X8_giveBack_2 b j1  n x2 v) (fun x2 v => p_X8_giveBack_2 b j1   n x2 v) ih x2 (vM v (b + 33) x2.toNatClampNeg ((v.1 (b + 33) x2.toNatClampNeg) + (v.1 j1 x2.toNatClampNeg))) hp hQ
def f_X8_giveBack_0 (b : Nat) (j1 : Nat)  (v : gV) : gV := f_X8_giveBack_2 b j1  5000 (0 : Int32) v
def p_X8_giveBack_0 (b : Nat) (j1 : Nat)  (v : gV) : Prop := p_X8_giveBack_2 b j1   5000 (0 : Int32) v
set_option maxHeartbeats 4000000 in
set_option maxRecDepth 100000 in
theorem w_X8_giveBack_0 {E : gE} {d : Nat} {Q : gO → gS → Prop} (b : Nat) (j1 : Nat) (hb : isBk b) (hk1 : kd j1 = (1, 4)) (hj1 : j1 < 572) (hd : 0 ≤ d)  (v : gV) (hp : p_X8_giveBack_0 b j1    v) (hQ : gqV Q (f_X8_giveBack_0 b j1   v)) : gG E m_X8_giveBack d Q 0 0 (rS v) 0 [(0, .ref (gX E + (b + 30))), (1, .ref (gX E + j1))] [] := by
  refine g_iconst dX8_giveBack_0 (0 : Int32) (by decide) ?_
  refine g_istore_n [(2, .int ((0 : Int32))), (0, .ref (gX E + (b + 30))), (1, .ref (gX E + j1))] dX8_giveBack_1 rfl (by decide) rfl ?_
  refine g_lv (lv' := [(0, .ref (gX E + (b + 30))), (1, .ref (gX E + j1)), (2, .int ((0 : Int32)))]) [1, 2, 0] rfl ?_
  exact w_X8_giveBack_2 b j1 hb hk1 hj1 hd    5000 (0 : Int32) v hp hQ
def f_X8_giveBack (b : Nat) (j1 : Nat)  (v : gV) : gV := f_X8_giveBack_0 b j1  v
def p_X8_giveBack (b : Nat) (j1 : Nat)  (v : gV) : Prop := p_X8_giveBack_0 b j1  v
theorem c_X8_giveBack {E : gE} {d : Nat} (b : Nat) (j1 : Nat) (hb : isBk b) (hk1 : kd j1 = (1, 4)) (hj1 : j1 < 572) (hd : 0 ≤ d)  (v : gV) (hp : p_X8_giveBack b j1  v) : CT E m_X8_giveBack d 0 0 [.ref (gX E + (b + 30)), .ref (gX E + j1)] (rS v) (Cq (.inl none) (f_X8_giveBack b j1  v)) := CT.of ok_X8_giveBack rfl (Nat.le_of_ble_eq_true rfl) (w_X8_giveBack_0 b j1 hb hk1 hj1 hd  v hp ⟨rfl, rfl⟩)
def f_X8_treatyOf_45 (b : Nat) (j2 : Nat) (K2 : Int32 → Int32 → gV → Int32)  (x1 : Int32) (x3 : Int32) (v : gV) : Int32 := K2 x1 (x3 + 1) v
def p_X8_treatyOf_45 (b : Nat) (j2 : Nat) (K2 : Int32 → Int32 → gV → Int32)  (PK2 : Int32 → Int32 → gV → Prop)  (x1 : Int32) (x3 : Int32) (v : gV) : Prop := PK2 x1 (x3 + 1) v
set_option maxHeartbeats 4000000 in
set_option maxRecDepth 100000 in
theorem w_X8_treatyOf_45 {E : gE} {d : Nat} {Q : gO → gS → Prop} (b : Nat) (j2 : Nat) (hb : isBk b) (hk2 : kd j2 = (1, 4)) (hj2 : j2 < 572) (hd : 0 ≤ d) (K2 : Int32 → Int32 → gV → Int32)  (PK2 : Int32 → Int32 → gV → Prop)  (hK2 : ∀ (x1 : Int32) (x3 : Int32) (v : gV), PK2 x1 x3 v → gqI Q v (K2 x1 x3 v) → gG E m_X8_treatyOf d Q 0 0 (rS v) 2 [(0, .ref (gX E + (b + 30))), (1, .int x1), (2, .ref (gX E + j2)), (3, .int x3)] [])  (x1 : Int32) (x3 : Int32) (v : gV) (hp : p_X8_treatyOf_45 b j2 K2 PK2 x1 x3 v) (hQ : gqI Q v (f_X8_treatyOf_45 b j2 K2 x1 x3 v)) : gG E m_X8_treatyOf d Q 0 0 (rS v) 45 [(0, .ref (gX E + (b + 30))), (1, .int x1), (2, .ref (gX E + j2)), (3, .int x3)] [] := by
  refine g_iinc 3 (x3 + 1) [(3, .int (x3 + 1)), (0, .ref (gX E + (b + 30))), (1, .int x1), (2, .ref (gX E + j2))] dX8_treatyOf_45 rfl rfl (by decide) rfl ?_
  refine g_goto 2 dX8_treatyOf_48 (by decide) ?_
  refine g_lv (lv' := [(0, .ref (gX E + (b + 30))), (1, .int x1), (2, .ref (gX E + j2)), (3, .int (x3 + 1))]) [1, 2, 3, 0] rfl ?_
  exact hK2 x1 (x3 + 1) v hp hQ
def f_X8_treatyOf_2 (b : Nat) (j2 : Nat) : Nat → Int32 → Int32 → gV → Int32
  | 0, _, _, v => 0
  | n + 1, x1, x3, v => if (v.1 (b + 30) 6) ≤ x3 then ((-1 : Int32)) else (if x1 ≤ (v.1 (b + 31) x3.toNatClampNeg) then (f_X8_treatyOf_45 b j2 (fun x1 x3 v => f_X8_treatyOf_2 b j2  n x1 x3 v) x1 x3 v) else (if ((v.1 (b + 31) x3.toNatClampNeg) + (v.1 (b + 32) x3.toNatClampNeg)) < x1 then (f_X8_treatyOf_45 b j2 (fun x1 x3 v => f_X8_treatyOf_2 b j2  n x1 x3 v) x1 x3 v) else (if (v.1 j2 x3.toNatClampNeg) ≤ 0 then (f_X8_treatyOf_45 b j2 (fun x1 x3 v => f_X8_treatyOf_2 b j2  n x1 x3 v) x1 x3 v) else x3)))
def p_X8_treatyOf_2 (b : Nat) (j2 : Nat) : Nat → Int32 → Int32 → gV → Prop
  | 0, _, _, _ => False
  | n + 1, x1, x3, v => (((v.1 (b + 30) 6) ≤ x3) → (True)) ∧ (¬ ((v.1 (b + 30) 6) ≤ x3) → ((vp_in x3 4) ∧ (((x1 ≤ (v.1 (b + 31) x3.toNatClampNeg)) → (p_X8_treatyOf_45 b j2 (fun x1 x3 v => f_X8_treatyOf_2 b j2  n x1 x3 v) (fun x1 x3 v => p_X8_treatyOf_2 b j2   n x1 x3 v) x1 x3 v)) ∧ (¬ (x1 ≤ (v.1 (b + 31) x3.toNatClampNeg)) → ((vp_in x3 4) ∧ ((vp_in x3 4) ∧ (((((v.1 (b + 31) x3.toNatClampNeg) + (v.1 (b + 32) x3.toNatClampNeg)) < x1) → (p_X8_treatyOf_45 b j2 (fun x1 x3 v => f_X8_treatyOf_2 b j2  n x1 x3 v) (fun x1 x3 v => p_X8_treatyOf_2 b j2   n x1 x3 v) x1 x3 v)) ∧ (¬ (((v.1 (b + 31) x3.toNatClampNeg) + (v.1 (b + 32) x3.toNatClampNeg)) < x1) → ((vp_in x3 4) ∧ ((((v.1 j2 x3.toNatClampNeg) ≤ 0) → (p_X8_treatyOf_45 b j2 (fun x1 x3 v => f_X8_treatyOf_2 b j2  n x1 x3 v) (fun x1 x3 v => p_X8_treatyOf_2 b j2   n x1 x3 v) x1 x3 v)) ∧ (¬ ((v.1 j2 x3.toNatClampNeg) ≤ 0) → (True))))))))))))
set_option maxHeartbeats 4000000 in
set_option maxRecDepth 100000 in
theorem w_X8_treatyOf_2 {E : gE} {d : Nat} {Q : gO → gS → Prop} (b : Nat) (j2 : Nat) (hb : isBk b) (hk2 : kd j2 = (1, 4)) (hj2 : j2 < 572) (hd : 0 ≤ d) : ∀ (n : Nat) (x1 : Int32) (x3 : Int32) (v : gV), p_X8_treatyOf_2 b j2   n x1 x3 v → gqI Q v (f_X8_treatyOf_2 b j2  n x1 x3 v) → gG E m_X8_treatyOf d Q 0 0 (rS v) 2 [(0, .ref (gX E + (b + 30))), (1, .int x1), (2, .ref (gX E + j2)), (3, .int x3)] [] := by
  intro n
  induction n with
  | zero => intro x1 x3 v hp; exact hp.elim
  | succ n ih =>
    intro x1 x3 v hp hQ
    refine g_iload_n 3 dX8_treatyOf_2 rfl ?_
    refine g_aload_n 0 dX8_treatyOf_3 rfl ?_
    refine r_get (.int (v.1 (b + 30) 6)) f_X8_34_X8 rfl (kb_30 hb) (lt_b hb (by decide)) dX8_treatyOf_4 (fun _ => rfl) ?_
    refine g_icmp_ge 51 dX8_treatyOf_7 (by decide) (fun h1 => ?_) (fun h1 => ?_)
    · have hQ := qp (P := gqI Q v) h1 hQ
      have hp := hp.1 h1
      refine g_iconst dX8_treatyOf_51 (-1 : Int32) (by decide) ?_
      exact g_iret rfl dX8_treatyOf_52 hQ
    · have hQ := qn (P := gqI Q v) h1 hQ
      have hp := hp.2 h1
      refine g_iload_n 1 dX8_treatyOf_10 rfl ?_
      refine g_aload_n 0 dX8_treatyOf_11 rfl ?_
      refine r_get (.ref (gX E + (b + 31))) f_X8_9_X8 rfl (kb_30 hb) (lt_b hb (by decide)) dX8_treatyOf_12 (fun _ => rfl) ?_
      refine g_iload_n 3 dX8_treatyOf_15 rfl ?_
      obtain ⟨h2, hp⟩ := hp
      refine g_iald (kb_31 hb) (lt_b hb (by decide)) h2 dX8_treatyOf_16 ?_
      refine g_icmp_le 45 dX8_treatyOf_17 (by decide) (fun h3 => ?_) (fun h3 => ?_)
      · have hQ := qp (P := gqI Q v) h3 hQ
        have hp := hp.1 h3
        exact w_X8_treatyOf_45 b j2 hb hk2 hj2 hd (fun x1 x3 v => f_X8_treatyOf_2 b j2  n x1 x3 v) (fun x1 x3 v => p_X8_treatyOf_2 b j2   n x1 x3 v) ih x1 x3 v hp hQ
      · have hQ := qn (P := gqI Q v) h3 hQ
        have hp := hp.2 h3
        refine g_iload_n 1 dX8_treatyOf_20 rfl ?_
        refine g_aload_n 0 dX8_treatyOf_21 rfl ?_
        refine r_get (.ref (gX E + (b + 31))) f_X8_9_X8 rfl (kb_30 hb) (lt_b hb (by decide)) dX8_treatyOf_22 (fun _ => rfl) ?_
        refine g_iload_n 3 dX8_treatyOf_25 rfl ?_
        obtain ⟨h4, hp⟩ := hp
        refine g_iald (kb_31 hb) (lt_b hb (by decide)) h4 dX8_treatyOf_26 ?_
        refine g_aload_n 0 dX8_treatyOf_27 rfl ?_
        refine r_get (.ref (gX E + (b + 32))) f_X8_15_X8 rfl (kb_30 hb) (lt_b hb (by decide)) dX8_treatyOf_28 (fun _ => rfl) ?_
        refine g_iload_n 3 dX8_treatyOf_31 rfl ?_
        obtain ⟨h5, hp⟩ := hp
        refine g_iald (kb_32 hb) (lt_b hb (by decide)) h5 dX8_treatyOf_32 ?_
        refine g_iadd dX8_treatyOf_33 ?_
        refine g_icmp_gt 45 dX8_treatyOf_34 (by decide) (fun h6 => ?_) (fun h6 => ?_)
        · have hQ := qp (P := gqI Q v) h6 hQ
          have hp := hp.1 h6
          exact w_X8_treatyOf_45 b j2 hb hk2 hj2 hd (fun x1 x3 v => f_X8_treatyOf_2 b j2  n x1 x3 v) (fun x1 x3 v => p_X8_treatyOf_2 b j2   n x1 x3 v) ih x1 x3 v hp hQ
        · have hQ := qn (P := gqI Q v) h6 hQ
          have hp := hp.2 h6
          refine g_aload_n 2 dX8_treatyOf_37 rfl ?_
          refine g_iload_n 3 dX8_treatyOf_38 rfl ?_
          obtain ⟨h7, hp⟩ := hp
          refine g_iald hk2 hj2 h7 dX8_treatyOf_39 ?_
          refine g_if_le 45 dX8_treatyOf_40 (by decide) (fun h8 => ?_) (fun h8 => ?_)
          · have hQ := qp (P := gqI Q v) h8 hQ
            have hp := hp.1 h8
            exact w_X8_treatyOf_45 b j2 hb hk2 hj2 hd (fun x1 x3 v => f_X8_treatyOf_2 b j2  n x1 x3 v) (fun x1 x3 v => p_X8_treatyOf_2 b j2   n x1 x3 v) ih x1 x3 v hp hQ
          · have hQ := qn (P := gqI Q v) h8 hQ
            have hp := hp.2 h8
            refine g_iload_n 3 dX8_treatyOf_43 rfl ?_
            exact g_iret rfl dX8_treatyOf_44 hQ
def f_X8_treatyOf_0 (b : Nat) (j2 : Nat) (x1 : Int32) (v : gV) : Int32 := f_X8_treatyOf_2 b j2  5000 x1 (0 : Int32) v
def p_X8_treatyOf_0 (b : Nat) (j2 : Nat) (x1 : Int32) (v : gV) : Prop := p_X8_treatyOf_2 b j2   5000 x1 (0 : Int32) v
set_option maxHeartbeats 4000000 in
set_option maxRecDepth 100000 in
theorem w_X8_treatyOf_0 {E : gE} {d : Nat} {Q : gO → gS → Prop} (b : Nat) (j2 : Nat) (hb : isBk b) (hk2 : kd j2 = (1, 4)) (hj2 : j2 < 572) (hd : 0 ≤ d) (x1 : Int32) (v : gV) (hp : p_X8_treatyOf_0 b j2   x1 v) (hQ : gqI Q v (f_X8_treatyOf_0 b j2  x1 v)) : gG E m_X8_treatyOf d Q 0 0 (rS v) 0 [(0, .ref (gX E + (b + 30))), (1, .int x1), (2, .ref (gX E + j2))] [] := by
  refine g_iconst dX8_treatyOf_0 (0 : Int32) (by decide) ?_
  refine g_istore_n [(3, .int ((0 : Int32))), (0, .ref (gX E + (b + 30))), (1, .int x1), (2, .ref (gX E + j2))] dX8_treatyOf_1 rfl (by decide) rfl ?_
  refine g_lv (lv' := [(0, .ref (gX E + (b + 30))), (1, .int x1), (2, .ref (gX E + j2)), (3, .int ((0 : Int32)))]) [1, 2, 3, 0] rfl ?_
  exact w_X8_treatyOf_2 b j2 hb hk2 hj2 hd    5000 x1 (0 : Int32) v hp hQ
def f_X8_treatyOf (b : Nat) (j2 : Nat) (x1 : Int32) (v : gV) : Int32 := f_X8_treatyOf_0 b j2 x1 v
def p_X8_treatyOf (b : Nat) (j2 : Nat) (x1 : Int32) (v : gV) : Prop := p_X8_treatyOf_0 b j2 x1 v
theorem c_X8_treatyOf {E : gE} {d : Nat} (b : Nat) (j2 : Nat) (hb : isBk b) (hk2 : kd j2 = (1, 4)) (hj2 : j2 < 572) (hd : 0 ≤ d) (x1 : Int32) (v : gV) (hp : p_X8_treatyOf b j2 x1 v) : CT E m_X8_treatyOf d 0 0 [.ref (gX E + (b + 30)), .int x1, .ref (gX E + j2)] (rS v) (Cq (.inl (some (.int (f_X8_treatyOf b j2 x1 v)))) v) := CT.of ok_X8_treatyOf rfl (Nat.le_of_ble_eq_true rfl) (w_X8_treatyOf_0 b j2 hb hk2 hj2 hd x1 v hp ⟨rfl, rfl⟩)
def f_X8_endOfRun_98 (b : Nat) (K56 : Int32 → Int32 → Int32 → Int32 → gV → Int32)  (x1 : Int32) (x4 : Int32) (x5 : Int32) (x6 : Int32) (v : gV) : Int32 := K56 x1 x4 x5 (x6 + 1) v
def p_X8_endOfRun_98 (b : Nat) (K56 : Int32 → Int32 → Int32 → Int32 → gV → Int32)  (PK56 : Int32 → Int32 → Int32 → Int32 → gV → Prop)  (x1 : Int32) (x4 : Int32) (x5 : Int32) (x6 : Int32) (v : gV) : Prop := PK56 x1 x4 x5 (x6 + 1) v
set_option maxHeartbeats 4000000 in
set_option maxRecDepth 100000 in
theorem w_X8_endOfRun_98 {E : gE} {d : Nat} {Q : gO → gS → Prop} (b : Nat) (hb : isBk b) (hd : 1 ≤ d) (K56 : Int32 → Int32 → Int32 → Int32 → gV → Int32)  (PK56 : Int32 → Int32 → Int32 → Int32 → gV → Prop)  (hK56 : ∀ (x1 : Int32) (x4 : Int32) (x5 : Int32) (x6 : Int32) (v : gV), PK56 x1 x4 x5 x6 v → gqI Q v (K56 x1 x4 x5 x6 v) → gG E m_X8_endOfRun d Q 0 0 (rS v) 56 [(0, .ref (gX E + (b + 30))), (1, .int x1), (4, .int x4), (5, .int x5), (6, .int x6)] [])  (x1 : Int32) (x4 : Int32) (x5 : Int32) (x6 : Int32) (v : gV) (hp : p_X8_endOfRun_98 b K56 PK56 x1 x4 x5 x6 v) (hQ : gqI Q v (f_X8_endOfRun_98 b K56 x1 x4 x5 x6 v)) : gG E m_X8_endOfRun d Q 0 0 (rS v) 98 [(0, .ref (gX E + (b + 30))), (1, .int x1), (4, .int x4), (5, .int x5), (6, .int x6)] [] := by
  refine g_iinc 4 (x6 + 1) [(6, .int (x6 + 1)), (0, .ref (gX E + (b + 30))), (1, .int x1), (4, .int x4), (5, .int x5)] dX8_endOfRun_98 rfl rfl (by decide) rfl ?_
  refine g_goto 56 dX8_endOfRun_101 (by decide) ?_
  refine g_lv (lv' := [(0, .ref (gX E + (b + 30))), (1, .int x1), (4, .int x4), (5, .int x5), (6, .int (x6 + 1))]) [1, 2, 3, 4, 0] rfl ?_
  exact hK56 x1 x4 x5 (x6 + 1) v hp hQ
def f_X8_endOfRun_56 (b : Nat) : Nat → Int32 → Int32 → Int32 → Int32 → gV → Int32
  | 0, _, _, _, _, v => 0
  | n + 1, x1, x4, x5, x6, v => if x5 ≤ x6 then x4 else (if (v.1 (b + 35) x6.toNatClampNeg) ≤ 0 then (f_X8_endOfRun_98 b (fun x1 x4 x5 x6 v => f_X8_endOfRun_56 b  n x1 x4 x5 x6 v) x1 x4 x5 x6 v) else (if (v.1 (b + 31) x6.toNatClampNeg) < x1 then (f_X8_endOfRun_98 b (fun x1 x4 x5 x6 v => f_X8_endOfRun_56 b  n x1 x4 x5 x6 v) x1 x4 x5 x6 v) else (f_X8_endOfRun_98 b (fun x1 x4 x5 x6 v => f_X8_endOfRun_56 b  n x1 x4 x5 x6 v) x1 (if (v.1 (b + 31) x6.toNatClampNeg) < x4 then (v.1 (b + 31) x6.toNatClampNeg) else x4) x5 x6 v)))
def p_X8_endOfRun_56 (b : Nat) : Nat → Int32 → Int32 → Int32 → Int32 → gV → Prop
  | 0, _, _, _, _, _ => False
  | n + 1, x1, x4, x5, x6, v => ((x5 ≤ x6) → (True)) ∧ (¬ (x5 ≤ x6) → ((vp_in x6 4) ∧ ((((v.1 (b + 35) x6.toNatClampNeg) ≤ 0) → (p_X8_endOfRun_98 b (fun x1 x4 x5 x6 v => f_X8_endOfRun_56 b  n x1 x4 x5 x6 v) (fun x1 x4 x5 x6 v => p_X8_endOfRun_56 b   n x1 x4 x5 x6 v) x1 x4 x5 x6 v)) ∧ (¬ ((v.1 (b + 35) x6.toNatClampNeg) ≤ 0) → ((vp_in x6 4) ∧ ((((v.1 (b + 31) x6.toNatClampNeg) < x1) → (p_X8_endOfRun_98 b (fun x1 x4 x5 x6 v => f_X8_endOfRun_56 b  n x1 x4 x5 x6 v) (fun x1 x4 x5 x6 v => p_X8_endOfRun_56 b   n x1 x4 x5 x6 v) x1 x4 x5 x6 v)) ∧ (¬ ((v.1 (b + 31) x6.toNatClampNeg) < x1) → ((vp_in x6 4) ∧ (p_X8_endOfRun_98 b (fun x1 x4 x5 x6 v => f_X8_endOfRun_56 b  n x1 x4 x5 x6 v) (fun x1 x4 x5 x6 v => p_X8_endOfRun_56 b   n x1 x4 x5 x6 v) x1 (if (v.1 (b + 31) x6.toNatClampNeg) < x4 then (v.1 (b + 31) x6.toNatClampNeg) else x4) x5 x6 v)))))))))
set_option maxHeartbeats 4000000 in
set_option maxRecDepth 100000 in
theorem w_X8_endOfRun_56 {E : gE} {d : Nat} {Q : gO → gS → Prop} (b : Nat) (hb : isBk b) (hd : 1 ≤ d) : ∀ (n : Nat) (x1 : Int32) (x4 : Int32) (x5 : Int32) (x6 : Int32) (v : gV), p_X8_endOfRun_56 b   n x1 x4 x5 x6 v → gqI Q v (f_X8_endOfRun_56 b  n x1 x4 x5 x6 v) → gG E m_X8_endOfRun d Q 0 0 (rS v) 56 [(0, .ref (gX E + (b + 30))), (1, .int x1), (4, .int x4), (5, .int x5), (6, .int x6)] [] := by
  intro n
  induction n with
  | zero => intro x1 x4 x5 x6 v hp; exact hp.elim
  | succ n ih =>
    intro x1 x4 x5 x6 v hp hQ
    refine g_iload 4 dX8_endOfRun_56 rfl ?_
    refine g_iload 3 dX8_endOfRun_58 rfl ?_
    refine g_icmp_ge 104 dX8_endOfRun_60 (by decide) (fun h2 => ?_) (fun h2 => ?_)
    · have hQ := qp (P := gqI Q v) h2 hQ
      have hp := hp.1 h2
      refine g_iload 2 dX8_endOfRun_104 rfl ?_
      exact g_iret rfl dX8_endOfRun_106 hQ
    · have hQ := qn (P := gqI Q v) h2 hQ
      have hp := hp.2 h2
      refine g_aload_n 0 dX8_endOfRun_63 rfl ?_
      refine r_get (.ref (gX E + (b + 35))) f_X8_24_X8 rfl (kb_30 hb) (lt_b hb (by decide)) dX8_endOfRun_64 (fun _ => rfl) ?_
      refine g_iload 4 dX8_endOfRun_67 rfl ?_
      obtain ⟨h3, hp⟩ := hp
      refine g_iald (kb_35 hb) (lt_b hb (by decide)) h3 dX8_endOfRun_69 ?_
      refine g_if_le 98 dX8_endOfRun_70 (by decide) (fun h4 => ?_) (fun h4 => ?_)
      · have hQ := qp (P := gqI Q v) h4 hQ
        have hp := hp.1 h4
        exact w_X8_endOfRun_98 b hb hd (fun x1 x4 x5 x6 v => f_X8_endOfRun_56 b  n x1 x4 x5 x6 v) (fun x1 x4 x5 x6 v => p_X8_endOfRun_56 b   n x1 x4 x5 x6 v) ih x1 x4 x5 x6 v hp hQ
      · have hQ := qn (P := gqI Q v) h4 hQ
        have hp := hp.2 h4
        refine g_aload_n 0 dX8_endOfRun_73 rfl ?_
        refine r_get (.ref (gX E + (b + 31))) f_X8_9_X8 rfl (kb_30 hb) (lt_b hb (by decide)) dX8_endOfRun_74 (fun _ => rfl) ?_
        refine g_iload 4 dX8_endOfRun_77 rfl ?_
        obtain ⟨h5, hp⟩ := hp
        refine g_iald (kb_31 hb) (lt_b hb (by decide)) h5 dX8_endOfRun_79 ?_
        refine g_iload_n 1 dX8_endOfRun_80 rfl ?_
        refine g_icmp_lt 98 dX8_endOfRun_81 (by decide) (fun h6 => ?_) (fun h6 => ?_)
        · have hQ := qp (P := gqI Q v) h6 hQ
          have hp := hp.1 h6
          exact w_X8_endOfRun_98 b hb hd (fun x1 x4 x5 x6 v => f_X8_endOfRun_56 b  n x1 x4 x5 x6 v) (fun x1 x4 x5 x6 v => p_X8_endOfRun_56 b   n x1 x4 x5 x6 v) ih x1 x4 x5 x6 v hp hQ
        · have hQ := qn (P := gqI Q v) h6 hQ
          have hp := hp.2 h6
          refine g_iload 2 dX8_endOfRun_84 rfl ?_
          refine g_aload_n 0 dX8_endOfRun_86 rfl ?_
          refine r_get (.ref (gX E + (b + 31))) f_X8_9_X8 rfl (kb_30 hb) (lt_b hb (by decide)) dX8_endOfRun_87 (fun _ => rfl) ?_
          refine g_iload 4 dX8_endOfRun_90 rfl ?_
          obtain ⟨h7, hp⟩ := hp
          refine g_iald (kb_31 hb) (lt_b hb (by decide)) h7 dX8_endOfRun_92 ?_
          refine r_mmin mw_X8_75 rfl (Nat.le_of_ble_eq_true rfl) (by omega) dX8_endOfRun_93 ?_
          refine g_istore [(4, .int ((if (v.1 (b + 31) x6.toNatClampNeg) < x4 then (v.1 (b + 31) x6.toNatClampNeg) else x4))), (0, .ref (gX E + (b + 30))), (1, .int x1), (5, .int x5), (6, .int x6)] dX8_endOfRun_96 (by decide) rfl ?_
          refine g_lv (lv' := [(0, .ref (gX E + (b + 30))), (1, .int x1), (4, .int ((if (v.1 (b + 31) x6.toNatClampNeg) < x4 then (v.1 (b + 31) x6.toNatClampNeg) else x4))), (5, .int x5), (6, .int x6)]) [1, 2, 0, 3, 4] rfl ?_
          exact w_X8_endOfRun_98 b hb hd (fun x1 x4 x5 x6 v => f_X8_endOfRun_56 b  n x1 x4 x5 x6 v) (fun x1 x4 x5 x6 v => p_X8_endOfRun_56 b   n x1 x4 x5 x6 v) ih x1 (if (v.1 (b + 31) x6.toNatClampNeg) < x4 then (v.1 (b + 31) x6.toNatClampNeg) else x4) x5 x6 v hp hQ
def f_X8_endOfRun_53 (b : Nat) (x1 : Int32) (x4 : Int32) (x5 : Int32) (v : gV) : Int32 := f_X8_endOfRun_56 b  5000 x1 x4 x5 (0 : Int32) v
def p_X8_endOfRun_53 (b : Nat) (x1 : Int32) (x4 : Int32) (x5 : Int32) (v : gV) : Prop := p_X8_endOfRun_56 b   5000 x1 x4 x5 (0 : Int32) v
set_option maxHeartbeats 4000000 in
set_option maxRecDepth 100000 in
theorem w_X8_endOfRun_53 {E : gE} {d : Nat} {Q : gO → gS → Prop} (b : Nat) (hb : isBk b) (hd : 1 ≤ d) (x1 : Int32) (x4 : Int32) (x5 : Int32) (v : gV) (hp : p_X8_endOfRun_53 b   x1 x4 x5 v) (hQ : gqI Q v (f_X8_endOfRun_53 b  x1 x4 x5 v)) : gG E m_X8_endOfRun d Q 0 0 (rS v) 53 [(0, .ref (gX E + (b + 30))), (1, .int x1), (4, .int x4), (5, .int x5)] [] := by
  refine g_iconst dX8_endOfRun_53 (0 : Int32) (by decide) ?_
  refine g_istore [(6, .int ((0 : Int32))), (0, .ref (gX E + (b + 30))), (1, .int x1), (4, .int x4), (5, .int x5)] dX8_endOfRun_54 (by decide) rfl ?_
  refine g_lv (lv' := [(0, .ref (gX E + (b + 30))), (1, .int x1), (4, .int x4), (5, .int x5), (6, .int ((0 : Int32)))]) [1, 2, 3, 4, 0] rfl ?_
  exact w_X8_endOfRun_56 b hb hd    5000 x1 x4 x5 (0 : Int32) v hp hQ
def f_X8_endOfRun_0 (b : Nat) (x1 : Int32) (x2 : Int32) (x3 : Int32) (v : gV) : Int32 := if x2 < 0 then (f_X8_endOfRun_53 b  x1 x3 (v.1 (b + 30) 6) v) else (f_X8_endOfRun_53 b  x1 (if ((x1 + (v.1 (b + 35) x2.toNatClampNeg)) - (1 : Int32)) < (if ((v.1 (b + 31) x2.toNatClampNeg) + (v.1 (b + 32) x2.toNatClampNeg)) < x3 then ((v.1 (b + 31) x2.toNatClampNeg) + (v.1 (b + 32) x2.toNatClampNeg)) else x3) then ((x1 + (v.1 (b + 35) x2.toNatClampNeg)) - (1 : Int32)) else (if ((v.1 (b + 31) x2.toNatClampNeg) + (v.1 (b + 32) x2.toNatClampNeg)) < x3 then ((v.1 (b + 31) x2.toNatClampNeg) + (v.1 (b + 32) x2.toNatClampNeg)) else x3)) x2 v)
def p_X8_endOfRun_0 (b : Nat) (x1 : Int32) (x2 : Int32) (x3 : Int32) (v : gV) : Prop := ((x2 < 0) → (p_X8_endOfRun_53 b   x1 x3 (v.1 (b + 30) 6) v)) ∧ (¬ (x2 < 0) → ((vp_in x2 4) ∧ ((vp_in x2 4) ∧ ((vp_in x2 4) ∧ (p_X8_endOfRun_53 b   x1 (if ((x1 + (v.1 (b + 35) x2.toNatClampNeg)) - (1 : Int32)) < (if ((v.1 (b + 31) x2.toNatClampNeg) + (v.1 (b + 32) x2.toNatClampNeg)) < x3 then ((v.1 (b + 31) x2.toNatClampNeg) + (v.1 (b + 32) x2.toNatClampNeg)) else x3) then ((x1 + (v.1 (b + 35) x2.toNatClampNeg)) - (1 : Int32)) else (if ((v.1 (b + 31) x2.toNatClampNeg) + (v.1 (b + 32) x2.toNatClampNeg)) < x3 then ((v.1 (b + 31) x2.toNatClampNeg) + (v.1 (b + 32) x2.toNatClampNeg)) else x3)) x2 v)))))
set_option maxHeartbeats 4000000 in
set_option maxRecDepth 100000 in
theorem w_X8_endOfRun_0 {E : gE} {d : Nat} {Q : gO → gS → Prop} (b : Nat) (hb : isBk b) (hd : 1 ≤ d) (x1 : Int32) (x2 : Int32) (x3 : Int32) (v : gV) (hp : p_X8_endOfRun_0 b   x1 x2 x3 v) (hQ : gqI Q v (f_X8_endOfRun_0 b  x1 x2 x3 v)) : gG E m_X8_endOfRun d Q 0 0 (rS v) 0 [(0, .ref (gX E + (b + 30))), (1, .int x1), (2, .int x2), (3, .int x3)] [] := by
  refine g_iload_n 3 dX8_endOfRun_0 rfl ?_
  refine g_istore [(4, .int x3), (0, .ref (gX E + (b + 30))), (1, .int x1), (2, .int x2), (3, .int x3)] dX8_endOfRun_1 (by decide) rfl ?_
  refine g_aload_n 1 dX8_endOfRun_3 rfl ?_
  refine r_get (.int (v.1 (b + 30) 6)) f_X8_34_X8 rfl (kb_30 hb) (lt_b hb (by decide)) dX8_endOfRun_4 (fun _ => rfl) ?_
  refine g_istore [(5, .int (v.1 (b + 30) 6)), (4, .int x3), (0, .ref (gX E + (b + 30))), (1, .int x1), (2, .int x2), (3, .int x3)] dX8_endOfRun_7 (by decide) rfl ?_
  refine g_iload_n 4 dX8_endOfRun_9 rfl ?_
  refine g_if_lt 53 dX8_endOfRun_10 (by decide) (fun h1 => ?_) (fun h1 => ?_)
  · have hQ := qp (P := gqI Q v) h1 hQ
    have hp := hp.1 h1
    refine g_lv (lv' := [(0, .ref (gX E + (b + 30))), (1, .int x1), (4, .int x3), (5, .int (v.1 (b + 30) 6))]) [2, 3, 1, 0] rfl ?_
    exact w_X8_endOfRun_53 b hb hd    x1 x3 (v.1 (b + 30) 6) v hp hQ
  · have hQ := qn (P := gqI Q v) h1 hQ
    have hp := hp.2 h1
    refine g_iload 1 dX8_endOfRun_13 rfl ?_
    refine g_aload_n 2 dX8_endOfRun_15 rfl ?_
    refine r_get (.ref (gX E + (b + 31))) f_X8_9_X8 rfl (kb_30 hb) (lt_b hb (by decide)) dX8_endOfRun_16 (fun _ => rfl) ?_
    refine g_iload_n 4 dX8_endOfRun_19 rfl ?_
    obtain ⟨h8, hp⟩ := hp
    refine g_iald (kb_31 hb) (lt_b hb (by decide)) h8 dX8_endOfRun_20 ?_
    refine g_aload_n 2 dX8_endOfRun_21 rfl ?_
    refine r_get (.ref (gX E + (b + 32))) f_X8_15_X8 rfl (kb_30 hb) (lt_b hb (by decide)) dX8_endOfRun_22 (fun _ => rfl) ?_
    refine g_iload_n 4 dX8_endOfRun_25 rfl ?_
    obtain ⟨h9, hp⟩ := hp
    refine g_iald (kb_32 hb) (lt_b hb (by decide)) h9 dX8_endOfRun_26 ?_
    refine g_iadd dX8_endOfRun_27 ?_
    refine r_mmin mw_X8_75 rfl (Nat.le_of_ble_eq_true rfl) (by omega) dX8_endOfRun_28 ?_
    refine g_istore [(4, .int ((if ((v.1 (b + 31) x2.toNatClampNeg) + (v.1 (b + 32) x2.toNatClampNeg)) < x3 then ((v.1 (b + 31) x2.toNatClampNeg) + (v.1 (b + 32) x2.toNatClampNeg)) else x3))), (5, .int (v.1 (b + 30) 6)), (0, .ref (gX E + (b + 30))), (1, .int x1), (2, .int x2), (3, .int x3)] dX8_endOfRun_31 (by decide) rfl ?_
    refine g_iload 0 dX8_endOfRun_33 rfl ?_
    refine g_iload_n 3 dX8_endOfRun_35 rfl ?_
    refine g_aload_n 2 dX8_endOfRun_36 rfl ?_
    refine r_get (.ref (gX E + (b + 35))) f_X8_24_X8 rfl (kb_30 hb) (lt_b hb (by decide)) dX8_endOfRun_37 (fun _ => rfl) ?_
    refine g_iload_n 4 dX8_endOfRun_40 rfl ?_
    obtain ⟨h10, hp⟩ := hp
    refine g_iald (kb_35 hb) (lt_b hb (by decide)) h10 dX8_endOfRun_41 ?_
    refine g_iadd dX8_endOfRun_42 ?_
    refine g_iconst dX8_endOfRun_43 (1 : Int32) (by decide) ?_
    refine g_isub dX8_endOfRun_44 ?_
    refine r_mmin mw_X8_75 rfl (Nat.le_of_ble_eq_true rfl) (by omega) dX8_endOfRun_45 ?_
    refine g_istore [(4, .int ((if ((x1 + (v.1 (b + 35) x2.toNatClampNeg)) - (1 : Int32)) < (if ((v.1 (b + 31) x2.toNatClampNeg) + (v.1 (b + 32) x2.toNatClampNeg)) < x3 then ((v.1 (b + 31) x2.toNatClampNeg) + (v.1 (b + 32) x2.toNatClampNeg)) else x3) then ((x1 + (v.1 (b + 35) x2.toNatClampNeg)) - (1 : Int32)) else (if ((v.1 (b + 31) x2.toNatClampNeg) + (v.1 (b + 32) x2.toNatClampNeg)) < x3 then ((v.1 (b + 31) x2.toNatClampNeg) + (v.1 (b + 32) x2.toNatClampNeg)) else x3)))), (5, .int (v.1 (b + 30) 6)), (0, .ref (gX E + (b + 30))), (1, .int x1), (2, .int x2), (3, .int x3)] dX8_endOfRun_48 (by decide) rfl ?_
    refine g_iload_n 4 dX8_endOfRun_50 rfl ?_
    refine g_istore [(5, .int x2), (4, .int ((if ((x1 + (v.1 (b + 35) x2.toNatClampNeg)) - (1 : Int32)) < (if ((v.1 (b + 31) x2.toNatClampNeg) + (v.1 (b + 32) x2.toNatClampNeg)) < x3 then ((v.1 (b + 31) x2.toNatClampNeg) + (v.1 (b + 32) x2.toNatClampNeg)) else x3) then ((x1 + (v.1 (b + 35) x2.toNatClampNeg)) - (1 : Int32)) else (if ((v.1 (b + 31) x2.toNatClampNeg) + (v.1 (b + 32) x2.toNatClampNeg)) < x3 then ((v.1 (b + 31) x2.toNatClampNeg) + (v.1 (b + 32) x2.toNatClampNeg)) else x3)))), (0, .ref (gX E + (b + 30))), (1, .int x1), (2, .int x2), (3, .int x3)] dX8_endOfRun_51 (by decide) rfl ?_
    refine g_lv (lv' := [(0, .ref (gX E + (b + 30))), (1, .int x1), (4, .int ((if ((x1 + (v.1 (b + 35) x2.toNatClampNeg)) - (1 : Int32)) < (if ((v.1 (b + 31) x2.toNatClampNeg) + (v.1 (b + 32) x2.toNatClampNeg)) < x3 then ((v.1 (b + 31) x2.toNatClampNeg) + (v.1 (b + 32) x2.toNatClampNeg)) else x3) then ((x1 + (v.1 (b + 35) x2.toNatClampNeg)) - (1 : Int32)) else (if ((v.1 (b + 31) x2.toNatClampNeg) + (v.1 (b + 32) x2.toNatClampNeg)) < x3 then ((v.1 (b + 31) x2.toNatClampNeg) + (v.1 (b + 32) x2.toNatClampNeg)) else x3)))), (5, .int x2)]) [2, 3, 1, 0] rfl ?_
    exact w_X8_endOfRun_53 b hb hd    x1 (if ((x1 + (v.1 (b + 35) x2.toNatClampNeg)) - (1 : Int32)) < (if ((v.1 (b + 31) x2.toNatClampNeg) + (v.1 (b + 32) x2.toNatClampNeg)) < x3 then ((v.1 (b + 31) x2.toNatClampNeg) + (v.1 (b + 32) x2.toNatClampNeg)) else x3) then ((x1 + (v.1 (b + 35) x2.toNatClampNeg)) - (1 : Int32)) else (if ((v.1 (b + 31) x2.toNatClampNeg) + (v.1 (b + 32) x2.toNatClampNeg)) < x3 then ((v.1 (b + 31) x2.toNatClampNeg) + (v.1 (b + 32) x2.toNatClampNeg)) else x3)) x2 v hp hQ
def f_X8_endOfRun (b : Nat) (x1 : Int32) (x2 : Int32) (x3 : Int32) (v : gV) : Int32 := f_X8_endOfRun_0 b x1 x2 x3 v
def p_X8_endOfRun (b : Nat) (x1 : Int32) (x2 : Int32) (x3 : Int32) (v : gV) : Prop := p_X8_endOfRun_0 b x1 x2 x3 v
theorem c_X8_endOfRun {E : gE} {d : Nat} (b : Nat) (hb : isBk b) (hd : 1 ≤ d) (x1 : Int32) (x2 : Int32) (x3 : Int32) (v : gV) (hp : p_X8_endOfRun b x1 x2 x3 v) : CT E m_X8_endOfRun d 0 0 [.ref (gX E + (b + 30)), .int x1, .int x2, .int x3] (rS v) (Cq (.inl (some (.int (f_X8_endOfRun b x1 x2 x3 v)))) v) := CT.of ok_X8_endOfRun rfl (Nat.le_of_ble_eq_true rfl) (w_X8_endOfRun_0 b hb hd x1 x2 x3 v hp ⟨rfl, rfl⟩)
def f_X9_add_49 (b : Nat)  (v : gV) : gV := v
def p_X9_add_49 (b : Nat)  (v : gV) : Prop := True
set_option maxHeartbeats 4000000 in
set_option maxRecDepth 100000 in
theorem w_X9_add_49 {E : gE} {d : Nat} {Q : gO → gS → Prop} (b : Nat) (hb : isBk b) (hd : 0 ≤ d)  (v : gV) (hp : p_X9_add_49 b    v) (hQ : gqV Q (f_X9_add_49 b   v)) : gG E m_X9_add d Q 0 0 (rS v) 49 [] [] := by
  exact g_vret rfl dX9_add_49 hQ
def f_X9_add_0 (b : Nat) (x1 : Int32) (x2 : Int32) (x3 : Int32) (v : gV) : gV := if (x1 / (10 : Int32)) < 0 then (f_X9_add_49 b   v) else (if ((x2 / (10 : Int32)) - (x1 / (10 : Int32))) < 0 then (f_X9_add_49 b   v) else (if (6 : Int32) ≤ ((x1 / (10 : Int32)) + ((x2 / (10 : Int32)) - (x1 / (10 : Int32)))) then (f_X9_add_49 b   v) else (f_X9_add_49 b   (vM v (b + 38 + 1 + (x1 / (10 : Int32)).toNatClampNeg) ((x2 / (10 : Int32)) - (x1 / (10 : Int32))).toNatClampNeg ((v.1 (b + 38 + 1 + (x1 / (10 : Int32)).toNatClampNeg) ((x2 / (10 : Int32)) - (x1 / (10 : Int32))).toNatClampNeg) + x3)))))
def p_X9_add_0 (b : Nat) (x1 : Int32) (x2 : Int32) (x3 : Int32) (v : gV) : Prop := (((x1 / (10 : Int32)) < 0) → (p_X9_add_49 b    v)) ∧ (¬ ((x1 / (10 : Int32)) < 0) → (((((x2 / (10 : Int32)) - (x1 / (10 : Int32))) < 0) → (p_X9_add_49 b    v)) ∧ (¬ (((x2 / (10 : Int32)) - (x1 / (10 : Int32))) < 0) → ((((6 : Int32) ≤ ((x1 / (10 : Int32)) + ((x2 / (10 : Int32)) - (x1 / (10 : Int32))))) → (p_X9_add_49 b    v)) ∧ (¬ ((6 : Int32) ≤ ((x1 / (10 : Int32)) + ((x2 / (10 : Int32)) - (x1 / (10 : Int32))))) → ((vp_in (x1 / (10 : Int32)) 6) ∧ ((vp_in ((x2 / (10 : Int32)) - (x1 / (10 : Int32))) 6) ∧ ((vp_in ((x2 / (10 : Int32)) - (x1 / (10 : Int32))) 6) ∧ (p_X9_add_49 b    (vM v (b + 38 + 1 + (x1 / (10 : Int32)).toNatClampNeg) ((x2 / (10 : Int32)) - (x1 / (10 : Int32))).toNatClampNeg ((v.1 (b + 38 + 1 + (x1 / (10 : Int32)).toNatClampNeg) ((x2 / (10 : Int32)) - (x1 / (10 : Int32))).toNatClampNeg) + x3)))))))))))
set_option maxHeartbeats 4000000 in
set_option maxRecDepth 100000 in
theorem w_X9_add_0 {E : gE} {d : Nat} {Q : gO → gS → Prop} (b : Nat) (hb : isBk b) (hd : 0 ≤ d) (x1 : Int32) (x2 : Int32) (x3 : Int32) (v : gV) (hp : p_X9_add_0 b   x1 x2 x3 v) (hQ : gqV Q (f_X9_add_0 b  x1 x2 x3 v)) : gG E m_X9_add d Q 0 0 (rS v) 0 [(0, .ref (gX E + (b + 37))), (1, .int x1), (2, .int x2), (3, .int x3)] [] := by
  refine g_iload_n 1 dX9_add_0 rfl ?_
  refine g_bipush dX9_add_1 (10 : Int32) (by decide) ?_
  refine g_idiv dX9_add_3 (by decide) ?_
  refine g_istore [(4, .int (x1 / (10 : Int32))), (0, .ref (gX E + (b + 37))), (1, .int x1), (2, .int x2), (3, .int x3)] dX9_add_4 (by decide) rfl ?_
  refine g_iload_n 3 dX9_add_6 rfl ?_
  refine g_bipush dX9_add_7 (10 : Int32) (by decide) ?_
  refine g_idiv dX9_add_9 (by decide) ?_
  refine g_iload 0 dX9_add_10 rfl ?_
  refine g_isub dX9_add_12 ?_
  refine g_istore [(5, .int ((x2 / (10 : Int32)) - (x1 / (10 : Int32)))), (4, .int (x1 / (10 : Int32))), (0, .ref (gX E + (b + 37))), (1, .int x1), (2, .int x2), (3, .int x3)] dX9_add_13 (by decide) rfl ?_
  refine g_iload 1 dX9_add_15 rfl ?_
  refine g_if_lt 49 dX9_add_17 (by decide) (fun h1 => ?_) (fun h1 => ?_)
  · have hQ := qp (P := gqV Q) h1 hQ
    have hp := hp.1 h1
    refine g_lv (lv' := []) [] rfl ?_
    exact w_X9_add_49 b hb hd     v hp hQ
  · have hQ := qn (P := gqV Q) h1 hQ
    have hp := hp.2 h1
    refine g_iload 0 dX9_add_20 rfl ?_
    refine g_if_lt 49 dX9_add_22 (by decide) (fun h2 => ?_) (fun h2 => ?_)
    · have hQ := qp (P := gqV Q) h2 hQ
      have hp := hp.1 h2
      refine g_lv (lv' := []) [] rfl ?_
      exact w_X9_add_49 b hb hd     v hp hQ
    · have hQ := qn (P := gqV Q) h2 hQ
      have hp := hp.2 h2
      refine g_iload 1 dX9_add_25 rfl ?_
      refine g_iload 0 dX9_add_27 rfl ?_
      refine g_iadd dX9_add_29 ?_
      refine g_bipush dX9_add_30 (6 : Int32) (by decide) ?_
      refine g_icmp_ge 49 dX9_add_32 (by decide) (fun h3 => ?_) (fun h3 => ?_)
      · have hQ := qp (P := gqV Q) h3 hQ
        have hp := hp.1 h3
        refine g_lv (lv' := []) [] rfl ?_
        exact w_X9_add_49 b hb hd     v hp hQ
      · have hQ := qn (P := gqV Q) h3 hQ
        have hp := hp.2 h3
        refine g_aload_n 2 dX9_add_35 rfl ?_
        refine r_get (.ref (gX E + (b + 38))) f_X9_11_X9 rfl (kb_37 hb) (lt_b hb (by decide)) dX9_add_36 (fun _ => rfl) ?_
        refine g_iload 1 dX9_add_39 rfl ?_
        obtain ⟨h4, hp⟩ := hp
        refine r_aald (kb_38 hb) (lt_b hb (by decide)) h4 (by decide) dX9_add_41 ?_
        refine g_iload 0 dX9_add_42 rfl ?_
        refine g_dup2 dX9_add_44 rfl rfl ?_
        obtain ⟨h5, hp⟩ := hp
        refine g_iald (kg_38 hb h4) (lg_38 hb h4) h5 dX9_add_45 ?_
        refine g_iload_n 5 dX9_add_46 rfl ?_
        refine g_iadd dX9_add_47 ?_
        obtain ⟨h6, hp⟩ := hp
        refine r_iast (kg_38 hb h4) (lg_38 hb h4) h6 dX9_add_48 ?_
        refine g_lv (lv' := []) [] rfl ?_
        exact w_X9_add_49 b hb hd     (vM v (b + 38 + 1 + (x1 / (10 : Int32)).toNatClampNeg) ((x2 / (10 : Int32)) - (x1 / (10 : Int32))).toNatClampNeg ((v.1 (b + 38 + 1 + (x1 / (10 : Int32)).toNatClampNeg) ((x2 / (10 : Int32)) - (x1 / (10 : Int32))).toNatClampNeg) + x3)) hp hQ
def f_X9_add (b : Nat) (x1 : Int32) (x2 : Int32) (x3 : Int32) (v : gV) : gV := f_X9_add_0 b x1 x2 x3 v
def p_X9_add (b : Nat) (x1 : Int32) (x2 : Int32) (x3 : Int32) (v : gV) : Prop := p_X9_add_0 b x1 x2 x3 v
theorem c_X9_add {E : gE} {d : Nat} (b : Nat) (hb : isBk b) (hd : 0 ≤ d) (x1 : Int32) (x2 : Int32) (x3 : Int32) (v : gV) (hp : p_X9_add b x1 x2 x3 v) : CT E m_X9_add d 0 0 [.ref (gX E + (b + 37)), .int x1, .int x2, .int x3] (rS v) (Cq (.inl none) (f_X9_add b x1 x2 x3 v)) := CT.of ok_X9_add rfl (Nat.le_of_ble_eq_true rfl) (w_X9_add_0 b hb hd x1 x2 x3 v hp ⟨rfl, rfl⟩)
def f_X9_totalOf_36 (b : Nat) (x3 : Int32) (v : gV) : Int32 := x3
def p_X9_totalOf_36 (b : Nat) (x3 : Int32) (v : gV) : Prop := True
set_option maxHeartbeats 4000000 in
set_option maxRecDepth 100000 in
theorem w_X9_totalOf_36 {E : gE} {d : Nat} {Q : gO → gS → Prop} (b : Nat) (hb : isBk b) (hd : 0 ≤ d) (x3 : Int32) (v : gV) (hp : p_X9_totalOf_36 b   x3 v) (hQ : gqI Q v (f_X9_totalOf_36 b  x3 v)) : gG E m_X9_totalOf d Q 0 0 (rS v) 36 [(3, .int x3)] [] := by
  refine g_iload_n 0 dX9_totalOf_36 rfl ?_
  exact g_iret rfl dX9_totalOf_37 hQ
def f_X9_totalOf_5 (b : Nat) : Nat → Int32 → Int32 → Int32 → Int32 → gV → Int32
  | 0, _, _, _, _, v => 0
  | n + 1, x1, x2, x3, x4, v => if x2 < x4 then (f_X9_totalOf_36 b  x3 v) else (if (6 : Int32) ≤ x4 then (f_X9_totalOf_36 b  x3 v) else (f_X9_totalOf_5 b  n x1 x2 (x3 + (v.1 (b + 38 + 1 + (x1).toNatClampNeg) x4.toNatClampNeg)) (x4 + 1) v))
def p_X9_totalOf_5 (b : Nat) : Nat → Int32 → Int32 → Int32 → Int32 → gV → Prop
  | 0, _, _, _, _, _ => False
  | n + 1, x1, x2, x3, x4, v => ((x2 < x4) → (p_X9_totalOf_36 b   x3 v)) ∧ (¬ (x2 < x4) → ((((6 : Int32) ≤ x4) → (p_X9_totalOf_36 b   x3 v)) ∧ (¬ ((6 : Int32) ≤ x4) → ((vp_in x1 6) ∧ ((vp_in x4 6) ∧ (p_X9_totalOf_5 b   n x1 x2 (x3 + (v.1 (b + 38 + 1 + (x1).toNatClampNeg) x4.toNatClampNeg)) (x4 + 1) v))))))
set_option maxHeartbeats 4000000 in
set_option maxRecDepth 100000 in
theorem w_X9_totalOf_5 {E : gE} {d : Nat} {Q : gO → gS → Prop} (b : Nat) (hb : isBk b) (hd : 0 ≤ d) : ∀ (n : Nat) (x1 : Int32) (x2 : Int32) (x3 : Int32) (x4 : Int32) (v : gV), p_X9_totalOf_5 b   n x1 x2 x3 x4 v → gqI Q v (f_X9_totalOf_5 b  n x1 x2 x3 x4 v) → gG E m_X9_totalOf d Q 0 0 (rS v) 5 [(0, .ref (gX E + (b + 37))), (1, .int x1), (2, .int x2), (3, .int x3), (4, .int x4)] [] := by
  intro n
  induction n with
  | zero => intro x1 x2 x3 x4 v hp; exact hp.elim
  | succ n ih =>
    intro x1 x2 x3 x4 v hp hQ
    refine g_iload 4 dX9_totalOf_5 rfl ?_
    refine g_iload_n 2 dX9_totalOf_7 rfl ?_
    refine g_icmp_gt 36 dX9_totalOf_8 (by decide) (fun h1 => ?_) (fun h1 => ?_)
    · have hQ := qp (P := gqI Q v) h1 hQ
      have hp := hp.1 h1
      refine g_lv (lv' := [(3, .int x3)]) [3] rfl ?_
      exact w_X9_totalOf_36 b hb hd    x3 v hp hQ
    · have hQ := qn (P := gqI Q v) h1 hQ
      have hp := hp.2 h1
      refine g_iload 4 dX9_totalOf_11 rfl ?_
      refine g_bipush dX9_totalOf_13 (6 : Int32) (by decide) ?_
      refine g_icmp_ge 36 dX9_totalOf_15 (by decide) (fun h2 => ?_) (fun h2 => ?_)
      · have hQ := qp (P := gqI Q v) h2 hQ
        have hp := hp.1 h2
        refine g_lv (lv' := [(3, .int x3)]) [3] rfl ?_
        exact w_X9_totalOf_36 b hb hd    x3 v hp hQ
      · have hQ := qn (P := gqI Q v) h2 hQ
        have hp := hp.2 h2
        refine g_iload_n 3 dX9_totalOf_18 rfl ?_
        refine g_aload_n 0 dX9_totalOf_19 rfl ?_
        refine r_get (.ref (gX E + (b + 38))) f_X9_11_X9 rfl (kb_37 hb) (lt_b hb (by decide)) dX9_totalOf_20 (fun _ => rfl) ?_
        refine g_iload_n 1 dX9_totalOf_23 rfl ?_
        obtain ⟨h3, hp⟩ := hp
        refine r_aald (kb_38 hb) (lt_b hb (by decide)) h3 (by decide) dX9_totalOf_24 ?_
        refine g_iload 4 dX9_totalOf_25 rfl ?_
        obtain ⟨h4, hp⟩ := hp
        refine g_iald (kg_38 hb h3) (lg_38 hb h3) h4 dX9_totalOf_27 ?_
        refine g_iadd dX9_totalOf_28 ?_
        refine g_istore_n [(3, .int (x3 + (v.1 (b + 38 + 1 + (x1).toNatClampNeg) x4.toNatClampNeg))), (0, .ref (gX E + (b + 37))), (1, .int x1), (2, .int x2), (4, .int x4)] dX9_totalOf_29 rfl (by decide) rfl ?_
        refine g_iinc 4 (x4 + 1) [(4, .int (x4 + 1)), (3, .int (x3 + (v.1 (b + 38 + 1 + (x1).toNatClampNeg) x4.toNatClampNeg))), (0, .ref (gX E + (b + 37))), (1, .int x1), (2, .int x2)] dX9_totalOf_30 rfl rfl (by decide) rfl ?_
        refine g_goto 5 dX9_totalOf_33 (by decide) ?_
        refine g_lv (lv' := [(0, .ref (gX E + (b + 37))), (1, .int x1), (2, .int x2), (3, .int (x3 + (v.1 (b + 38 + 1 + (x1).toNatClampNeg) x4.toNatClampNeg))), (4, .int (x4 + 1))]) [2, 3, 4, 1, 0] rfl ?_
        exact ih x1 x2 (x3 + (v.1 (b + 38 + 1 + (x1).toNatClampNeg) x4.toNatClampNeg)) (x4 + 1) v hp hQ
def f_X9_totalOf_0 (b : Nat) (x1 : Int32) (x2 : Int32) (v : gV) : Int32 := f_X9_totalOf_5 b  5000 x1 x2 (0 : Int32) (0 : Int32) v
def p_X9_totalOf_0 (b : Nat) (x1 : Int32) (x2 : Int32) (v : gV) : Prop := p_X9_totalOf_5 b   5000 x1 x2 (0 : Int32) (0 : Int32) v
set_option maxHeartbeats 4000000 in
set_option maxRecDepth 100000 in
theorem w_X9_totalOf_0 {E : gE} {d : Nat} {Q : gO → gS → Prop} (b : Nat) (hb : isBk b) (hd : 0 ≤ d) (x1 : Int32) (x2 : Int32) (v : gV) (hp : p_X9_totalOf_0 b   x1 x2 v) (hQ : gqI Q v (f_X9_totalOf_0 b  x1 x2 v)) : gG E m_X9_totalOf d Q 0 0 (rS v) 0 [(0, .ref (gX E + (b + 37))), (1, .int x1), (2, .int x2)] [] := by
  refine g_iconst dX9_totalOf_0 (0 : Int32) (by decide) ?_
  refine g_istore_n [(3, .int ((0 : Int32))), (0, .ref (gX E + (b + 37))), (1, .int x1), (2, .int x2)] dX9_totalOf_1 rfl (by decide) rfl ?_
  refine g_iconst dX9_totalOf_2 (0 : Int32) (by decide) ?_
  refine g_istore [(4, .int ((0 : Int32))), (3, .int ((0 : Int32))), (0, .ref (gX E + (b + 37))), (1, .int x1), (2, .int x2)] dX9_totalOf_3 (by decide) rfl ?_
  refine g_lv (lv' := [(0, .ref (gX E + (b + 37))), (1, .int x1), (2, .int x2), (3, .int ((0 : Int32))), (4, .int ((0 : Int32)))]) [2, 3, 4, 1, 0] rfl ?_
  exact w_X9_totalOf_5 b hb hd    5000 x1 x2 (0 : Int32) (0 : Int32) v hp hQ
def f_X9_totalOf (b : Nat) (x1 : Int32) (x2 : Int32) (v : gV) : Int32 := f_X9_totalOf_0 b x1 x2 v
def p_X9_totalOf (b : Nat) (x1 : Int32) (x2 : Int32) (v : gV) : Prop := p_X9_totalOf_0 b x1 x2 v
theorem c_X9_totalOf {E : gE} {d : Nat} (b : Nat) (hb : isBk b) (hd : 0 ≤ d) (x1 : Int32) (x2 : Int32) (v : gV) (hp : p_X9_totalOf b x1 x2 v) : CT E m_X9_totalOf d 0 0 [.ref (gX E + (b + 37)), .int x1, .int x2] (rS v) (Cq (.inl (some (.int (f_X9_totalOf b x1 x2 v)))) v) := CT.of ok_X9_totalOf rfl (Nat.le_of_ble_eq_true rfl) (w_X9_totalOf_0 b hb hd x1 x2 v hp ⟨rfl, rfl⟩)
def f_X11_day_0   (v : gV) : Int32 := v.1 1 5
def p_X11_day_0   (v : gV) : Prop := True
set_option maxHeartbeats 4000000 in
set_option maxRecDepth 100000 in
theorem w_X11_day_0 {E : gE} {d : Nat} {Q : gO → gS → Prop}   (hd : 0 ≤ d)  (v : gV) (hp : p_X11_day_0    v) (hQ : gqI Q v (f_X11_day_0   v)) : gG E m_X11_day d Q 0 0 (rS v) 0 [(0, .ref (gX E + 0))] [] := by
  refine g_aload_n 0 dX11_day_0 rfl ?_
  refine r_get (.ref (gX E + 1)) f_X11_10_X11 rfl (by decide : kd 0 = (0, 8)) (show 0 < 572 by decide) dX11_day_1 (fun _ => rfl) ?_
  refine r_get (.int (v.1 1 5)) f_X11_102_X1 rfl (kbz isBk_1) (lt_b0 isBk_1) dX11_day_4 (fun _ => rfl) ?_
  exact g_iret rfl dX11_day_7 hQ
def f_X11_day   (v : gV) : Int32 := f_X11_day_0  v
def p_X11_day   (v : gV) : Prop := p_X11_day_0  v
theorem c_X11_day {E : gE} {d : Nat}   (hd : 0 ≤ d)  (v : gV) (hp : p_X11_day  v) : CT E m_X11_day d 0 0 [.ref (gX E + 0)] (rS v) (Cq (.inl (some (.int (f_X11_day  v)))) v) := CT.of ok_X11_day rfl (Nat.le_of_ble_eq_true rfl) (w_X11_day_0  hd  v hp ⟨rfl, rfl⟩)
def f_X11_cash_0   (v : gV) : Int32 := v.1 1 6
def p_X11_cash_0   (v : gV) : Prop := True
set_option maxHeartbeats 4000000 in
set_option maxRecDepth 100000 in
theorem w_X11_cash_0 {E : gE} {d : Nat} {Q : gO → gS → Prop}   (hd : 0 ≤ d)  (v : gV) (hp : p_X11_cash_0    v) (hQ : gqI Q v (f_X11_cash_0   v)) : gG E m_X11_cash d Q 0 0 (rS v) 0 [(0, .ref (gX E + 0))] [] := by
  refine g_aload_n 0 dX11_cash_0 rfl ?_
  refine r_get (.ref (gX E + 1)) f_X11_10_X11 rfl (by decide : kd 0 = (0, 8)) (show 0 < 572 by decide) dX11_cash_1 (fun _ => rfl) ?_
  refine r_get (.int (v.1 1 6)) f_X11_105_X1 rfl (kbz isBk_1) (lt_b0 isBk_1) dX11_cash_4 (fun _ => rfl) ?_
  exact g_iret rfl dX11_cash_7 hQ
def f_X11_cash   (v : gV) : Int32 := f_X11_cash_0  v
def p_X11_cash   (v : gV) : Prop := p_X11_cash_0  v
theorem c_X11_cash {E : gE} {d : Nat}   (hd : 0 ≤ d)  (v : gV) (hp : p_X11_cash  v) : CT E m_X11_cash d 0 0 [.ref (gX E + 0)] (rS v) (Cq (.inl (some (.int (f_X11_cash  v)))) v) := CT.of ok_X11_cash rfl (Nat.le_of_ble_eq_true rfl) (w_X11_cash_0  hd  v hp ⟨rfl, rfl⟩)
def f_X11_policyCount_0   (v : gV) : Int32 := v.1 (1 + 1) 1
def p_X11_policyCount_0   (v : gV) : Prop := True
set_option maxHeartbeats 4000000 in
set_option maxRecDepth 100000 in
theorem w_X11_policyCount_0 {E : gE} {d : Nat} {Q : gO → gS → Prop}   (hd : 0 ≤ d)  (v : gV) (hp : p_X11_policyCount_0    v) (hQ : gqI Q v (f_X11_policyCount_0   v)) : gG E m_X11_policyCount d Q 0 0 (rS v) 0 [(0, .ref (gX E + 0))] [] := by
  refine g_aload_n 0 dX11_policyCount_0 rfl ?_
  refine r_get (.ref (gX E + 1)) f_X11_10_X11 rfl (by decide : kd 0 = (0, 8)) (show 0 < 572 by decide) dX11_policyCount_1 (fun _ => rfl) ?_
  refine r_get (.ref (gX E + (1 + 1))) f_X11_108_X1 rfl (kbz isBk_1) (lt_b0 isBk_1) dX11_policyCount_4 (fun _ => rfl) ?_
  refine r_get (.int (v.1 (1 + 1) 1)) f_X11_112_X5 rfl (kb_1 isBk_1) (lt_b isBk_1 (by decide)) dX11_policyCount_7 (fun _ => rfl) ?_
  exact g_iret rfl dX11_policyCount_10 hQ
def f_X11_policyCount   (v : gV) : Int32 := f_X11_policyCount_0  v
def p_X11_policyCount   (v : gV) : Prop := p_X11_policyCount_0  v
theorem c_X11_policyCount {E : gE} {d : Nat}   (hd : 0 ≤ d)  (v : gV) (hp : p_X11_policyCount  v) : CT E m_X11_policyCount d 0 0 [.ref (gX E + 0)] (rS v) (Cq (.inl (some (.int (f_X11_policyCount  v)))) v) := CT.of ok_X11_policyCount rfl (Nat.le_of_ble_eq_true rfl) (w_X11_policyCount_0  hd  v hp ⟨rfl, rfl⟩)
def f_X11_claimCount_0   (v : gV) : Int32 := v.1 (1 + 10) 1
def p_X11_claimCount_0   (v : gV) : Prop := True
set_option maxHeartbeats 4000000 in
set_option maxRecDepth 100000 in
theorem w_X11_claimCount_0 {E : gE} {d : Nat} {Q : gO → gS → Prop}   (hd : 0 ≤ d)  (v : gV) (hp : p_X11_claimCount_0    v) (hQ : gqI Q v (f_X11_claimCount_0   v)) : gG E m_X11_claimCount d Q 0 0 (rS v) 0 [(0, .ref (gX E + 0))] [] := by
  refine g_aload_n 0 dX11_claimCount_0 rfl ?_
  refine r_get (.ref (gX E + 1)) f_X11_10_X11 rfl (by decide : kd 0 = (0, 8)) (show 0 < 572 by decide) dX11_claimCount_1 (fun _ => rfl) ?_
  refine r_get (.ref (gX E + (1 + 10))) f_X11_146_X1 rfl (kbz isBk_1) (lt_b0 isBk_1) dX11_claimCount_4 (fun _ => rfl) ?_
  refine r_get (.int (v.1 (1 + 10) 1)) f_X11_150_X2 rfl (kb_10 isBk_1) (lt_b isBk_1 (by decide)) dX11_claimCount_7 (fun _ => rfl) ?_
  exact g_iret rfl dX11_claimCount_10 hQ
def f_X11_claimCount   (v : gV) : Int32 := f_X11_claimCount_0  v
def p_X11_claimCount   (v : gV) : Prop := p_X11_claimCount_0  v
theorem c_X11_claimCount {E : gE} {d : Nat}   (hd : 0 ≤ d)  (v : gV) (hp : p_X11_claimCount  v) : CT E m_X11_claimCount d 0 0 [.ref (gX E + 0)] (rS v) (Cq (.inl (some (.int (f_X11_claimCount  v)))) v) := CT.of ok_X11_claimCount rfl (Nat.le_of_ble_eq_true rfl) (w_X11_claimCount_0  hd  v hp ⟨rfl, rfl⟩)
def f_X11_treatyCount_0   (v : gV) : Int32 := v.1 (1 + 30) 6
def p_X11_treatyCount_0   (v : gV) : Prop := True
set_option maxHeartbeats 4000000 in
set_option maxRecDepth 100000 in
theorem w_X11_treatyCount_0 {E : gE} {d : Nat} {Q : gO → gS → Prop}   (hd : 0 ≤ d)  (v : gV) (hp : p_X11_treatyCount_0    v) (hQ : gqI Q v (f_X11_treatyCount_0   v)) : gG E m_X11_treatyCount d Q 0 0 (rS v) 0 [(0, .ref (gX E + 0))] [] := by
  refine g_aload_n 0 dX11_treatyCount_0 rfl ?_
  refine r_get (.ref (gX E + 1)) f_X11_10_X11 rfl (by decide : kd 0 = (0, 8)) (show 0 < 572 by decide) dX11_treatyCount_1 (fun _ => rfl) ?_
  refine r_get (.ref (gX E + (1 + 30))) f_X11_171_X1 rfl (kbz isBk_1) (lt_b0 isBk_1) dX11_treatyCount_4 (fun _ => rfl) ?_
  refine r_get (.int (v.1 (1 + 30) 6)) f_X11_175_X8 rfl (kb_30 isBk_1) (lt_b isBk_1 (by decide)) dX11_treatyCount_7 (fun _ => rfl) ?_
  exact g_iret rfl dX11_treatyCount_10 hQ
def f_X11_treatyCount   (v : gV) : Int32 := f_X11_treatyCount_0  v
def p_X11_treatyCount   (v : gV) : Prop := p_X11_treatyCount_0  v
theorem c_X11_treatyCount {E : gE} {d : Nat}   (hd : 0 ≤ d)  (v : gV) (hp : p_X11_treatyCount  v) : CT E m_X11_treatyCount d 0 0 [.ref (gX E + 0)] (rS v) (Cq (.inl (some (.int (f_X11_treatyCount  v)))) v) := CT.of ok_X11_treatyCount rfl (Nat.le_of_ble_eq_true rfl) (w_X11_treatyCount_0  hd  v hp ⟨rfl, rfl⟩)
def f_X11_outcomes_0   (v : gV) : Int64 := (f_X5_countOutcomes 1 (v.1 1 5) v)
def p_X11_outcomes_0   (v : gV) : Prop := (p_X5_countOutcomes 1 (v.1 1 5) v) ∧ (True)
set_option maxHeartbeats 4000000 in
set_option maxRecDepth 100000 in
theorem w_X11_outcomes_0 {E : gE} {d : Nat} {Q : gO → gS → Prop}   (hd : 2 ≤ d)  (v : gV) (hp : p_X11_outcomes_0    v) (hQ : gqJ Q v (f_X11_outcomes_0   v)) : gG E m_X11_outcomes d Q 0 0 (rS v) 0 [(0, .ref (gX E + 0))] [] := by
  refine g_aload_n 0 dX11_outcomes_0 rfl ?_
  refine r_get (.ref (gX E + 1)) f_X11_10_X11 rfl (by decide : kd 0 = (0, 8)) (show 0 < 572 by decide) dX11_outcomes_1 (fun _ => rfl) ?_
  refine r_get (.ref (gX E + (1 + 1))) f_X11_108_X1 rfl (kbz isBk_1) (lt_b0 isBk_1) dX11_outcomes_4 (fun _ => rfl) ?_
  refine g_aload_n 0 dX11_outcomes_7 rfl ?_
  refine r_get (.ref (gX E + 1)) f_X11_10_X11 rfl (by decide : kd 0 = (0, 8)) (show 0 < 572 by decide) dX11_outcomes_8 (fun _ => rfl) ?_
  refine r_get (.int (v.1 1 5)) f_X11_102_X1 rfl (kbz isBk_1) (lt_b0 isBk_1) dX11_outcomes_11 (fun _ => rfl) ?_
  obtain ⟨h1, hp⟩ := hp
  refine g_callV (rest := []) s_X11_199_X5 rfl (c_X5_countOutcomes (E := E) (d := d - 1) 1 isBk_1 (by omega) (v.1 1 5) v h1) (kb_1 isBk_1) (lt_b isBk_1 (by decide)) rfl rfl (Nat.le_of_ble_eq_true rfl) (by omega) (by decide) (by decide) dX11_outcomes_14 (adV ?_) axN
  exact g_lret rfl dX11_outcomes_17 hQ
def f_X11_outcomes   (v : gV) : Int64 := f_X11_outcomes_0  v
def p_X11_outcomes   (v : gV) : Prop := p_X11_outcomes_0  v
theorem c_X11_outcomes {E : gE} {d : Nat}   (hd : 2 ≤ d)  (v : gV) (hp : p_X11_outcomes  v) : CT E m_X11_outcomes d 0 0 [.ref (gX E + 0)] (rS v) (Cq (.inl (some (.long (f_X11_outcomes  v)))) v) := CT.of ok_X11_outcomes rfl (Nat.le_of_ble_eq_true rfl) (w_X11_outcomes_0  hd  v hp ⟨rfl, rfl⟩)
def f_X11_greatestLoss_0   (v : gV) : Int32 := (f_X5_mostLoss 1 (v.1 1 5) v)
def p_X11_greatestLoss_0   (v : gV) : Prop := (p_X5_mostLoss 1 (v.1 1 5) v) ∧ (True)
set_option maxHeartbeats 4000000 in
set_option maxRecDepth 100000 in
theorem w_X11_greatestLoss_0 {E : gE} {d : Nat} {Q : gO → gS → Prop}   (hd : 2 ≤ d)  (v : gV) (hp : p_X11_greatestLoss_0    v) (hQ : gqI Q v (f_X11_greatestLoss_0   v)) : gG E m_X11_greatestLoss d Q 0 0 (rS v) 0 [(0, .ref (gX E + 0))] [] := by
  refine g_aload_n 0 dX11_greatestLoss_0 rfl ?_
  refine r_get (.ref (gX E + 1)) f_X11_10_X11 rfl (by decide : kd 0 = (0, 8)) (show 0 < 572 by decide) dX11_greatestLoss_1 (fun _ => rfl) ?_
  refine r_get (.ref (gX E + (1 + 1))) f_X11_108_X1 rfl (kbz isBk_1) (lt_b0 isBk_1) dX11_greatestLoss_4 (fun _ => rfl) ?_
  refine g_aload_n 0 dX11_greatestLoss_7 rfl ?_
  refine r_get (.ref (gX E + 1)) f_X11_10_X11 rfl (by decide : kd 0 = (0, 8)) (show 0 < 572 by decide) dX11_greatestLoss_8 (fun _ => rfl) ?_
  refine r_get (.int (v.1 1 5)) f_X11_102_X1 rfl (kbz isBk_1) (lt_b0 isBk_1) dX11_greatestLoss_11 (fun _ => rfl) ?_
  obtain ⟨h1, hp⟩ := hp
  refine g_callV (rest := []) s_X11_211_X5 rfl (c_X5_mostLoss (E := E) (d := d - 1) 1 isBk_1 (by omega) (v.1 1 5) v h1) (kb_1 isBk_1) (lt_b isBk_1 (by decide)) rfl rfl (Nat.le_of_ble_eq_true rfl) (by omega) (by decide) (by decide) dX11_greatestLoss_14 (adV ?_) axN
  exact g_iret rfl dX11_greatestLoss_17 hQ
def f_X11_greatestLoss   (v : gV) : Int32 := f_X11_greatestLoss_0  v
def p_X11_greatestLoss   (v : gV) : Prop := p_X11_greatestLoss_0  v
theorem c_X11_greatestLoss {E : gE} {d : Nat}   (hd : 2 ≤ d)  (v : gV) (hp : p_X11_greatestLoss  v) : CT E m_X11_greatestLoss d 0 0 [.ref (gX E + 0)] (rS v) (Cq (.inl (some (.int (f_X11_greatestLoss  v)))) v) := CT.of ok_X11_greatestLoss rfl (Nat.le_of_ble_eq_true rfl) (w_X11_greatestLoss_0  hd  v hp ⟨rfl, rfl⟩)
def f_X11_lastPeriod_0   (v : gV) : Int32 := (f_X1_latestPeriod 1 v)
def p_X11_lastPeriod_0   (v : gV) : Prop := (p_X1_latestPeriod 1 v) ∧ (True)
set_option maxHeartbeats 4000000 in
set_option maxRecDepth 100000 in
theorem w_X11_lastPeriod_0 {E : gE} {d : Nat} {Q : gO → gS → Prop}   (hd : 2 ≤ d)  (v : gV) (hp : p_X11_lastPeriod_0    v) (hQ : gqI Q v (f_X11_lastPeriod_0   v)) : gG E m_X11_lastPeriod d Q 0 0 (rS v) 0 [(0, .ref (gX E + 0))] [] := by
  refine g_aload_n 0 dX11_lastPeriod_0 rfl ?_
  refine r_get (.ref (gX E + 1)) f_X11_10_X11 rfl (by decide : kd 0 = (0, 8)) (show 0 < 572 by decide) dX11_lastPeriod_1 (fun _ => rfl) ?_
  obtain ⟨h1, hp⟩ := hp
  refine g_callV (rest := []) s_X11_223_X1 rfl (c_X1_latestPeriod (E := E) (d := d - 1) 1 isBk_1 (by omega)  v h1) (kbz isBk_1) (lt_b0 isBk_1) rfl rfl (Nat.le_of_ble_eq_true rfl) (by omega) (by decide) (by decide) dX11_lastPeriod_4 (adV ?_) axN
  exact g_iret rfl dX11_lastPeriod_7 hQ
def f_X11_lastPeriod   (v : gV) : Int32 := f_X11_lastPeriod_0  v
def p_X11_lastPeriod   (v : gV) : Prop := p_X11_lastPeriod_0  v
theorem c_X11_lastPeriod {E : gE} {d : Nat}   (hd : 2 ≤ d)  (v : gV) (hp : p_X11_lastPeriod  v) : CT E m_X11_lastPeriod d 0 0 [.ref (gX E + 0)] (rS v) (Cq (.inl (some (.int (f_X11_lastPeriod  v)))) v) := CT.of ok_X11_lastPeriod rfl (Nat.le_of_ble_eq_true rfl) (w_X11_lastPeriod_0  hd  v hp ⟨rfl, rfl⟩)
def f_X11_offerCount_0   (v : gV) : Int32 := v.1 (1 + 45) 4
def p_X11_offerCount_0   (v : gV) : Prop := True
set_option maxHeartbeats 4000000 in
set_option maxRecDepth 100000 in
theorem w_X11_offerCount_0 {E : gE} {d : Nat} {Q : gO → gS → Prop}   (hd : 0 ≤ d)  (v : gV) (hp : p_X11_offerCount_0    v) (hQ : gqI Q v (f_X11_offerCount_0   v)) : gG E m_X11_offerCount d Q 0 0 (rS v) 0 [(0, .ref (gX E + 0))] [] := by
  refine g_aload_n 0 dX11_offerCount_0 rfl ?_
  refine r_get (.ref (gX E + 1)) f_X11_10_X11 rfl (by decide : kd 0 = (0, 8)) (show 0 < 572 by decide) dX11_offerCount_1 (fun _ => rfl) ?_
  refine r_get (.ref (gX E + (1 + 45))) f_X11_87_X1 rfl (kbz isBk_1) (lt_b0 isBk_1) dX11_offerCount_4 (fun _ => rfl) ?_
  refine r_get (.int (v.1 (1 + 45) 4)) f_X11_236_X4 rfl (kb_45 isBk_1) (lt_b isBk_1 (by decide)) dX11_offerCount_7 (fun _ => rfl) ?_
  exact g_iret rfl dX11_offerCount_10 hQ
def f_X11_offerCount   (v : gV) : Int32 := f_X11_offerCount_0  v
def p_X11_offerCount   (v : gV) : Prop := p_X11_offerCount_0  v
theorem c_X11_offerCount {E : gE} {d : Nat}   (hd : 0 ≤ d)  (v : gV) (hp : p_X11_offerCount  v) : CT E m_X11_offerCount d 0 0 [.ref (gX E + 0)] (rS v) (Cq (.inl (some (.int (f_X11_offerCount  v)))) v) := CT.of ok_X11_offerCount rfl (Nat.le_of_ble_eq_true rfl) (w_X11_offerCount_0  hd  v hp ⟨rfl, rfl⟩)
def f_X11_coverPrice_0  (x0 : Int32) (v : gV) : Int32 ⊕ String := if x0 < (1000 : Int32) then (Sum.inl x0) else (Sum.inr "java/util/NoSuchElementException")
def p_X11_coverPrice_0  (x0 : Int32) (v : gV) : Prop := ((x0 < (1000 : Int32)) → (True)) ∧ (¬ (x0 < (1000 : Int32)) → (True))
set_option maxHeartbeats 4000000 in
set_option maxRecDepth 100000 in
theorem w_X11_coverPrice_0 {E : gE} {d : Nat} {Q : gO → gS → Prop}   (hd : 7 ≤ d) (x0 : Int32) (v : gV) (hp : p_X11_coverPrice_0   x0 v) (hQ : gqTI Q v (f_X11_coverPrice_0  x0 v)) : gG E m_X11_coverPrice d Q 1 6 (rS v) 0 [(0, .int x0)] [] := by
  refine g_iload_n 0 dX11_coverPrice_0 rfl ?_
  refine g_sipush dX11_coverPrice_1 (1000 : Int32) (by decide) ?_
  refine g_icmp_lt 18 dX11_coverPrice_4 (by decide) (fun h1 => ?_) (fun h1 => ?_)
  · have hQ := qp (P := gqTI Q v) h1 hQ
    have hp := hp.1 h1
    refine g_iload_n 0 dX11_coverPrice_18 rfl ?_
    exact g_iret rfl dX11_coverPrice_19 hQ
  · have hQ := qn (P := gqTI Q v) h1 hQ
    have hp := hp.2 h1
    exact g_throwNW rfl t_X11_347_349 rfl rfl rfl (by omega) (by decide) (by decide) (Nat.le_of_ble_eq_true rfl) dX11_coverPrice_7 dX11_coverPrice_10 dX11_coverPrice_11 dX11_coverPrice_14 dX11_coverPrice_17 hQ
def f_X11_coverPrice  (x0 : Int32) (v : gV) : Int32 ⊕ String := f_X11_coverPrice_0 x0 v
def p_X11_coverPrice  (x0 : Int32) (v : gV) : Prop := p_X11_coverPrice_0 x0 v
theorem c_X11_coverPrice {E : gE} {d : Nat}   (hd : 7 ≤ d) (x0 : Int32) (v : gV) (hp : p_X11_coverPrice x0 v) : CT E m_X11_coverPrice d 1 6 [.int x0] (rS v) (Cq (gOi (f_X11_coverPrice x0 v)) v) := CT.of ok_X11_coverPrice rfl (Nat.le_of_ble_eq_true rfl) (w_X11_coverPrice_0  hd x0 v hp ⟨rfl, rfl⟩)
def f_X11_known_0  (x0 : Int32) (v : gV) : Int32 ⊕ String := if 0 ≤ x0 then (Sum.inl x0) else (Sum.inr "java/util/NoSuchElementException")
def p_X11_known_0  (x0 : Int32) (v : gV) : Prop := ((0 ≤ x0) → (True)) ∧ (¬ (0 ≤ x0) → (True))
set_option maxHeartbeats 4000000 in
set_option maxRecDepth 100000 in
theorem w_X11_known_0 {E : gE} {d : Nat} {Q : gO → gS → Prop}   (hd : 7 ≤ d) (x0 : Int32) (v : gV) (hp : p_X11_known_0   x0 v) (hQ : gqTI Q v (f_X11_known_0  x0 v)) : gG E m_X11_known d Q 1 6 (rS v) 0 [(0, .int x0)] [] := by
  refine g_iload_n 0 dX11_known_0 rfl ?_
  refine g_if_ge 15 dX11_known_1 (by decide) (fun h1 => ?_) (fun h1 => ?_)
  · have hQ := qp (P := gqTI Q v) h1 hQ
    have hp := hp.1 h1
    refine g_iload_n 0 dX11_known_15 rfl ?_
    exact g_iret rfl dX11_known_16 hQ
  · have hQ := qn (P := gqTI Q v) h1 hQ
    have hp := hp.2 h1
    exact g_throwNW rfl t_X11_347_352 rfl rfl rfl (by omega) (by decide) (by decide) (Nat.le_of_ble_eq_true rfl) dX11_known_4 dX11_known_7 dX11_known_8 dX11_known_11 dX11_known_14 hQ
def f_X11_known  (x0 : Int32) (v : gV) : Int32 ⊕ String := f_X11_known_0 x0 v
def p_X11_known  (x0 : Int32) (v : gV) : Prop := p_X11_known_0 x0 v
theorem c_X11_known {E : gE} {d : Nat}   (hd : 7 ≤ d) (x0 : Int32) (v : gV) (hp : p_X11_known x0 v) : CT E m_X11_known d 1 6 [.int x0] (rS v) (Cq (gOi (f_X11_known x0 v)) v) := CT.of ok_X11_known rfl (Nat.le_of_ble_eq_true rfl) (w_X11_known_0  hd x0 v hp ⟨rfl, rfl⟩)
def f_X11_checkedNumber_10   (v : gV) : Int32 ⊕ String := Sum.inr "java/lang/IllegalArgumentException"
def p_X11_checkedNumber_10   (v : gV) : Prop := True
set_option maxHeartbeats 4000000 in
set_option maxRecDepth 100000 in
theorem w_X11_checkedNumber_10 {E : gE} {d : Nat} {Q : gO → gS → Prop}   (hd : 7 ≤ d)  (v : gV) (hp : p_X11_checkedNumber_10    v) (hQ : gqTI Q v (f_X11_checkedNumber_10   v)) : gG E m_X11_checkedNumber d Q 1 6 (rS v) 10 [] [] := by
  exact g_throwSW rfl t_X11_312_354 rfl rfl rfl (by omega) (by decide) (by decide) (Nat.le_of_ble_eq_true rfl) dX11_checkedNumber_10 dX11_checkedNumber_13 dX11_checkedNumber_14 dX11_checkedNumber_17 dX11_checkedNumber_20 hQ
def f_X11_checkedNumber_0  (x0 : Int32) (x1 : Int32) (x2 : Int32) (v : gV) : Int32 ⊕ String := if x0 < x1 then (f_X11_checkedNumber_10   v) else (if x0 ≤ x2 then (Sum.inl x0) else (f_X11_checkedNumber_10   v))
def p_X11_checkedNumber_0  (x0 : Int32) (x1 : Int32) (x2 : Int32) (v : gV) : Prop := ((x0 < x1) → (p_X11_checkedNumber_10    v)) ∧ (¬ (x0 < x1) → (((x0 ≤ x2) → (True)) ∧ (¬ (x0 ≤ x2) → (p_X11_checkedNumber_10    v))))
set_option maxHeartbeats 4000000 in
set_option maxRecDepth 100000 in
theorem w_X11_checkedNumber_0 {E : gE} {d : Nat} {Q : gO → gS → Prop}   (hd : 7 ≤ d) (x0 : Int32) (x1 : Int32) (x2 : Int32) (v : gV) (hp : p_X11_checkedNumber_0   x0 x1 x2 v) (hQ : gqTI Q v (f_X11_checkedNumber_0  x0 x1 x2 v)) : gG E m_X11_checkedNumber d Q 1 6 (rS v) 0 [(0, .int x0), (1, .int x1), (2, .int x2)] [] := by
  refine g_iload_n 0 dX11_checkedNumber_0 rfl ?_
  refine g_iload_n 1 dX11_checkedNumber_1 rfl ?_
  refine g_icmp_lt 10 dX11_checkedNumber_2 (by decide) (fun h1 => ?_) (fun h1 => ?_)
  · have hQ := qp (P := gqTI Q v) h1 hQ
    have hp := hp.1 h1
    refine g_lv (lv' := []) [] rfl ?_
    exact w_X11_checkedNumber_10  hd     v hp hQ
  · have hQ := qn (P := gqTI Q v) h1 hQ
    have hp := hp.2 h1
    refine g_iload_n 0 dX11_checkedNumber_5 rfl ?_
    refine g_iload_n 2 dX11_checkedNumber_6 rfl ?_
    refine g_icmp_le 21 dX11_checkedNumber_7 (by decide) (fun h2 => ?_) (fun h2 => ?_)
    · have hQ := qp (P := gqTI Q v) h2 hQ
      have hp := hp.1 h2
      refine g_iload_n 0 dX11_checkedNumber_21 rfl ?_
      exact g_iret rfl dX11_checkedNumber_22 hQ
    · have hQ := qn (P := gqTI Q v) h2 hQ
      have hp := hp.2 h2
      refine g_lv (lv' := []) [] rfl ?_
      exact w_X11_checkedNumber_10  hd     v hp hQ
def f_X11_checkedNumber  (x0 : Int32) (x1 : Int32) (x2 : Int32) (v : gV) : Int32 ⊕ String := f_X11_checkedNumber_0 x0 x1 x2 v
def p_X11_checkedNumber  (x0 : Int32) (x1 : Int32) (x2 : Int32) (v : gV) : Prop := p_X11_checkedNumber_0 x0 x1 x2 v
theorem c_X11_checkedNumber {E : gE} {d : Nat}   (hd : 7 ≤ d) (x0 : Int32) (x1 : Int32) (x2 : Int32) (v : gV) (hp : p_X11_checkedNumber x0 x1 x2 v) : CT E m_X11_checkedNumber d 1 6 [.int x0, .int x1, .int x2] (rS v) (Cq (gOi (f_X11_checkedNumber x0 x1 x2 v)) v) := CT.of ok_X11_checkedNumber rfl (Nat.le_of_ble_eq_true rfl) (w_X11_checkedNumber_0  hd x0 x1 x2 v hp ⟨rfl, rfl⟩)
def f_X11_checkedIndex_9   (v : gV) : Int32 ⊕ String := Sum.inr "java/lang/IndexOutOfBoundsException"
def p_X11_checkedIndex_9   (v : gV) : Prop := True
set_option maxHeartbeats 4000000 in
set_option maxRecDepth 100000 in
theorem w_X11_checkedIndex_9 {E : gE} {d : Nat} {Q : gO → gS → Prop}   (hd : 7 ≤ d)  (v : gV) (hp : p_X11_checkedIndex_9    v) (hQ : gqTI Q v (f_X11_checkedIndex_9   v)) : gG E m_X11_checkedIndex d Q 1 6 (rS v) 9 [] [] := by
  exact g_throwSW rfl t_X11_356_358 rfl rfl rfl (by omega) (by decide) (by decide) (Nat.le_of_ble_eq_true rfl) dX11_checkedIndex_9 dX11_checkedIndex_12 dX11_checkedIndex_13 dX11_checkedIndex_16 dX11_checkedIndex_19 hQ
def f_X11_checkedIndex_0  (x0 : Int32) (x1 : Int32) (v : gV) : Int32 ⊕ String := if x0 < 0 then (f_X11_checkedIndex_9   v) else (if x0 < x1 then (Sum.inl x0) else (f_X11_checkedIndex_9   v))
def p_X11_checkedIndex_0  (x0 : Int32) (x1 : Int32) (v : gV) : Prop := ((x0 < 0) → (p_X11_checkedIndex_9    v)) ∧ (¬ (x0 < 0) → (((x0 < x1) → (True)) ∧ (¬ (x0 < x1) → (p_X11_checkedIndex_9    v))))
set_option maxHeartbeats 4000000 in
set_option maxRecDepth 100000 in
theorem w_X11_checkedIndex_0 {E : gE} {d : Nat} {Q : gO → gS → Prop}   (hd : 7 ≤ d) (x0 : Int32) (x1 : Int32) (v : gV) (hp : p_X11_checkedIndex_0   x0 x1 v) (hQ : gqTI Q v (f_X11_checkedIndex_0  x0 x1 v)) : gG E m_X11_checkedIndex d Q 1 6 (rS v) 0 [(0, .int x0), (1, .int x1)] [] := by
  refine g_iload_n 0 dX11_checkedIndex_0 rfl ?_
  refine g_if_lt 9 dX11_checkedIndex_1 (by decide) (fun h1 => ?_) (fun h1 => ?_)
  · have hQ := qp (P := gqTI Q v) h1 hQ
    have hp := hp.1 h1
    refine g_lv (lv' := []) [] rfl ?_
    exact w_X11_checkedIndex_9  hd     v hp hQ
  · have hQ := qn (P := gqTI Q v) h1 hQ
    have hp := hp.2 h1
    refine g_iload_n 0 dX11_checkedIndex_4 rfl ?_
    refine g_iload_n 1 dX11_checkedIndex_5 rfl ?_
    refine g_icmp_lt 20 dX11_checkedIndex_6 (by decide) (fun h2 => ?_) (fun h2 => ?_)
    · have hQ := qp (P := gqTI Q v) h2 hQ
      have hp := hp.1 h2
      refine g_iload_n 0 dX11_checkedIndex_20 rfl ?_
      exact g_iret rfl dX11_checkedIndex_21 hQ
    · have hQ := qn (P := gqTI Q v) h2 hQ
      have hp := hp.2 h2
      refine g_lv (lv' := []) [] rfl ?_
      exact w_X11_checkedIndex_9  hd     v hp hQ
def f_X11_checkedIndex  (x0 : Int32) (x1 : Int32) (v : gV) : Int32 ⊕ String := f_X11_checkedIndex_0 x0 x1 v
def p_X11_checkedIndex  (x0 : Int32) (x1 : Int32) (v : gV) : Prop := p_X11_checkedIndex_0 x0 x1 v
theorem c_X11_checkedIndex {E : gE} {d : Nat}   (hd : 7 ≤ d) (x0 : Int32) (x1 : Int32) (v : gV) (hp : p_X11_checkedIndex x0 x1 v) : CT E m_X11_checkedIndex d 1 6 [.int x0, .int x1] (rS v) (Cq (gOi (f_X11_checkedIndex x0 x1 v)) v) := CT.of ok_X11_checkedIndex rfl (Nat.le_of_ble_eq_true rfl) (w_X11_checkedIndex_0  hd x0 x1 v hp ⟨rfl, rfl⟩)
def f_X11_find_2 (j0 : Nat) (N0 : Nat) : Nat → Int32 → Int32 → Int32 → gV → Int32
  | 0, _, _, _, v => 0
  | n + 1, x1, x2, x3, v => if x1 ≤ x3 then ((-1 : Int32)) else (if (v.1 j0 x3.toNatClampNeg) = x2 then x3 else (f_X11_find_2 j0 N0  n x1 x2 (x3 + 1) v))
def p_X11_find_2 (j0 : Nat) (N0 : Nat) : Nat → Int32 → Int32 → Int32 → gV → Prop
  | 0, _, _, _, _ => False
  | n + 1, x1, x2, x3, v => ((x1 ≤ x3) → (True)) ∧ (¬ (x1 ≤ x3) → ((vp_in x3 N0) ∧ ((((v.1 j0 x3.toNatClampNeg) = x2) → (True)) ∧ (¬ ((v.1 j0 x3.toNatClampNeg) = x2) → (p_X11_find_2 j0 N0   n x1 x2 (x3 + 1) v)))))
set_option maxHeartbeats 4000000 in
set_option maxRecDepth 100000 in
theorem w_X11_find_2 {E : gE} {d : Nat} {Q : gO → gS → Prop} (j0 : Nat) (N0 : Nat) (hN0 : N0 < 65536) (hk0 : kd j0 = (1, N0)) (hj0 : j0 < 572) (hd : 0 ≤ d) : ∀ (n : Nat) (x1 : Int32) (x2 : Int32) (x3 : Int32) (v : gV), p_X11_find_2 j0 N0   n x1 x2 x3 v → gqI Q v (f_X11_find_2 j0 N0  n x1 x2 x3 v) → gG E m_X11_find d Q 0 0 (rS v) 2 [(0, .ref (gX E + j0)), (1, .int x1), (2, .int x2), (3, .int x3)] [] := by
  intro n
  induction n with
  | zero => intro x1 x2 x3 v hp; exact hp.elim
  | succ n ih =>
    intro x1 x2 x3 v hp hQ
    refine g_iload_n 3 dX11_find_2 rfl ?_
    refine g_iload_n 1 dX11_find_3 rfl ?_
    refine g_icmp_ge 22 dX11_find_4 (by decide) (fun h1 => ?_) (fun h1 => ?_)
    · have hQ := qp (P := gqI Q v) h1 hQ
      have hp := hp.1 h1
      refine g_iconst dX11_find_22 (-1 : Int32) (by decide) ?_
      exact g_iret rfl dX11_find_23 hQ
    · have hQ := qn (P := gqI Q v) h1 hQ
      have hp := hp.2 h1
      refine g_aload_n 0 dX11_find_7 rfl ?_
      refine g_iload_n 3 dX11_find_8 rfl ?_
      obtain ⟨h2, hp⟩ := hp
      refine g_iald hk0 hj0 h2 dX11_find_9 ?_
      refine g_iload_n 2 dX11_find_10 rfl ?_
      refine g_icmp_ne 16 dX11_find_11 (by decide) (fun h3 => ?_) (fun h3 => ?_)
      · have hQ := qn (P := gqI Q v) h3 hQ
        have hp := hp.2 h3
        refine g_iinc 3 (x3 + 1) [(3, .int (x3 + 1)), (0, .ref (gX E + j0)), (1, .int x1), (2, .int x2)] dX11_find_16 rfl rfl (by decide) rfl ?_
        refine g_goto 2 dX11_find_19 (by decide) ?_
        refine g_lv (lv' := [(0, .ref (gX E + j0)), (1, .int x1), (2, .int x2), (3, .int (x3 + 1))]) [1, 2, 3, 0] rfl ?_
        exact ih x1 x2 (x3 + 1) v hp hQ
      · have hQ := qp (P := gqI Q v) h3 hQ
        have hp := hp.1 h3
        refine g_iload_n 3 dX11_find_14 rfl ?_
        exact g_iret rfl dX11_find_15 hQ
def f_X11_find_0 (j0 : Nat) (N0 : Nat) (x1 : Int32) (x2 : Int32) (v : gV) : Int32 := f_X11_find_2 j0 N0  5000 x1 x2 (0 : Int32) v
def p_X11_find_0 (j0 : Nat) (N0 : Nat) (x1 : Int32) (x2 : Int32) (v : gV) : Prop := p_X11_find_2 j0 N0   5000 x1 x2 (0 : Int32) v
set_option maxHeartbeats 4000000 in
set_option maxRecDepth 100000 in
theorem w_X11_find_0 {E : gE} {d : Nat} {Q : gO → gS → Prop} (j0 : Nat) (N0 : Nat) (hN0 : N0 < 65536) (hk0 : kd j0 = (1, N0)) (hj0 : j0 < 572) (hd : 0 ≤ d) (x1 : Int32) (x2 : Int32) (v : gV) (hp : p_X11_find_0 j0 N0   x1 x2 v) (hQ : gqI Q v (f_X11_find_0 j0 N0  x1 x2 v)) : gG E m_X11_find d Q 0 0 (rS v) 0 [(0, .ref (gX E + j0)), (1, .int x1), (2, .int x2)] [] := by
  refine g_iconst dX11_find_0 (0 : Int32) (by decide) ?_
  refine g_istore_n [(3, .int ((0 : Int32))), (0, .ref (gX E + j0)), (1, .int x1), (2, .int x2)] dX11_find_1 rfl (by decide) rfl ?_
  refine g_lv (lv' := [(0, .ref (gX E + j0)), (1, .int x1), (2, .int x2), (3, .int ((0 : Int32)))]) [1, 2, 3, 0] rfl ?_
  exact w_X11_find_2 j0 N0 hN0 hk0 hj0 hd    5000 x1 x2 (0 : Int32) v hp hQ
def f_X11_find (j0 : Nat) (N0 : Nat) (x1 : Int32) (x2 : Int32) (v : gV) : Int32 := f_X11_find_0 j0 N0 x1 x2 v
def p_X11_find (j0 : Nat) (N0 : Nat) (x1 : Int32) (x2 : Int32) (v : gV) : Prop := p_X11_find_0 j0 N0 x1 x2 v
theorem c_X11_find {E : gE} {d : Nat} (j0 : Nat) (N0 : Nat) (hN0 : N0 < 65536) (hk0 : kd j0 = (1, N0)) (hj0 : j0 < 572) (hd : 0 ≤ d) (x1 : Int32) (x2 : Int32) (v : gV) (hp : p_X11_find j0 N0 x1 x2 v) : CT E m_X11_find d 0 0 [.ref (gX E + j0), .int x1, .int x2] (rS v) (Cq (.inl (some (.int (f_X11_find j0 N0 x1 x2 v)))) v) := CT.of ok_X11_find rfl (Nat.le_of_ble_eq_true rfl) (w_X11_find_0 j0 N0 hN0 hk0 hj0 hd x1 x2 v hp ⟨rfl, rfl⟩)
def f_X11_freePlace_9   (v : gV) : Int32 ⊕ String := Sum.inr "java/lang/IllegalStateException"
def p_X11_freePlace_9   (v : gV) : Prop := True
set_option maxHeartbeats 4000000 in
set_option maxRecDepth 100000 in
theorem w_X11_freePlace_9 {E : gE} {d : Nat} {Q : gO → gS → Prop}   (hd : 7 ≤ d)  (v : gV) (hp : p_X11_freePlace_9    v) (hQ : gqTI Q v (f_X11_freePlace_9   v)) : gG E m_X11_freePlace d Q 1 6 (rS v) 9 [] [] := by
  exact g_throwSW rfl t_X11_324_361 rfl rfl rfl (by omega) (by decide) (by decide) (Nat.le_of_ble_eq_true rfl) dX11_freePlace_9 dX11_freePlace_12 dX11_freePlace_13 dX11_freePlace_16 dX11_freePlace_19 hQ
def f_X11_freePlace_0  (x0 : Int32) (x1 : Int32) (v : gV) : Int32 ⊕ String := if x0 < 0 then (f_X11_freePlace_9   v) else (if x0 < x1 then (Sum.inl x0) else (f_X11_freePlace_9   v))
def p_X11_freePlace_0  (x0 : Int32) (x1 : Int32) (v : gV) : Prop := ((x0 < 0) → (p_X11_freePlace_9    v)) ∧ (¬ (x0 < 0) → (((x0 < x1) → (True)) ∧ (¬ (x0 < x1) → (p_X11_freePlace_9    v))))
set_option maxHeartbeats 4000000 in
set_option maxRecDepth 100000 in
theorem w_X11_freePlace_0 {E : gE} {d : Nat} {Q : gO → gS → Prop}   (hd : 7 ≤ d) (x0 : Int32) (x1 : Int32) (v : gV) (hp : p_X11_freePlace_0   x0 x1 v) (hQ : gqTI Q v (f_X11_freePlace_0  x0 x1 v)) : gG E m_X11_freePlace d Q 1 6 (rS v) 0 [(0, .int x0), (1, .int x1)] [] := by
  refine g_iload_n 0 dX11_freePlace_0 rfl ?_
  refine g_if_lt 9 dX11_freePlace_1 (by decide) (fun h1 => ?_) (fun h1 => ?_)
  · have hQ := qp (P := gqTI Q v) h1 hQ
    have hp := hp.1 h1
    refine g_lv (lv' := []) [] rfl ?_
    exact w_X11_freePlace_9  hd     v hp hQ
  · have hQ := qn (P := gqTI Q v) h1 hQ
    have hp := hp.2 h1
    refine g_iload_n 0 dX11_freePlace_4 rfl ?_
    refine g_iload_n 1 dX11_freePlace_5 rfl ?_
    refine g_icmp_lt 20 dX11_freePlace_6 (by decide) (fun h2 => ?_) (fun h2 => ?_)
    · have hQ := qp (P := gqTI Q v) h2 hQ
      have hp := hp.1 h2
      refine g_iload_n 0 dX11_freePlace_20 rfl ?_
      exact g_iret rfl dX11_freePlace_21 hQ
    · have hQ := qn (P := gqTI Q v) h2 hQ
      have hp := hp.2 h2
      refine g_lv (lv' := []) [] rfl ?_
      exact w_X11_freePlace_9  hd     v hp hQ
def f_X11_freePlace  (x0 : Int32) (x1 : Int32) (v : gV) : Int32 ⊕ String := f_X11_freePlace_0 x0 x1 v
def p_X11_freePlace  (x0 : Int32) (x1 : Int32) (v : gV) : Prop := p_X11_freePlace_0 x0 x1 v
theorem c_X11_freePlace {E : gE} {d : Nat}   (hd : 7 ≤ d) (x0 : Int32) (x1 : Int32) (v : gV) (hp : p_X11_freePlace x0 x1 v) : CT E m_X11_freePlace d 1 6 [.int x0, .int x1] (rS v) (Cq (gOi (f_X11_freePlace x0 x1 v)) v) := CT.of ok_X11_freePlace rfl (Nat.le_of_ble_eq_true rfl) (w_X11_freePlace_0  hd x0 x1 v hp ⟨rfl, rfl⟩)
def f_X11_copyRow_14 (j0 : Nat) (N0 : Nat) (j1 : Nat) (N1 : Nat)  (v : gV) : gV := v
def p_X11_copyRow_14 (j0 : Nat) (N0 : Nat) (j1 : Nat) (N1 : Nat)  (v : gV) : Prop := True
set_option maxHeartbeats 4000000 in
set_option maxRecDepth 100000 in
theorem w_X11_copyRow_14 {E : gE} {d : Nat} {Q : gO → gS → Prop} (j0 : Nat) (N0 : Nat) (j1 : Nat) (N1 : Nat) (hN0 : N0 < 65536) (hk0 : kd j0 = (1, N0)) (hj0 : j0 < 572) (hN1 : N1 < 65536) (hk1 : kd j1 = (1, N1)) (hj1 : j1 < 572) (hd : 2 ≤ d)  (v : gV) (hp : p_X11_copyRow_14 j0 N0 j1 N1    v) (hQ : gqV Q (f_X11_copyRow_14 j0 N0 j1 N1   v)) : gG E m_X11_copyRow d Q 0 0 (rS v) 14 [] [] := by
  exact g_vret rfl dX11_copyRow_14 hQ
def f_X11_copyRow_0 (j0 : Nat) (N0 : Nat) (j1 : Nat) (N1 : Nat)  (v : gV) : gV := f_X11_copyRow_14 j0 N0 j1 N1   (vRow v j1 (va_cpy (v.1 j0) (v.1 j1) 0 0 (if (nI N1) < (nI N0) then (nI N1) else (nI N0)).toNatClampNeg))
def p_X11_copyRow_0 (j0 : Nat) (N0 : Nat) (j1 : Nat) (N1 : Nat)  (v : gV) : Prop := (¬ (if (nI N1) < (nI N0) then (nI N1) else (nI N0)) < 0) ∧ (((if (nI N1) < (nI N0) then (nI N1) else (nI N0)).toNatClampNeg ≤ N0) ∧ (((if (nI N1) < (nI N0) then (nI N1) else (nI N0)).toNatClampNeg ≤ N1) ∧ (p_X11_copyRow_14 j0 N0 j1 N1    (vRow v j1 (va_cpy (v.1 j0) (v.1 j1) 0 0 (if (nI N1) < (nI N0) then (nI N1) else (nI N0)).toNatClampNeg)))))
set_option maxHeartbeats 4000000 in
set_option maxRecDepth 100000 in
theorem w_X11_copyRow_0 {E : gE} {d : Nat} {Q : gO → gS → Prop} (j0 : Nat) (N0 : Nat) (j1 : Nat) (N1 : Nat) (hN0 : N0 < 65536) (hk0 : kd j0 = (1, N0)) (hj0 : j0 < 572) (hN1 : N1 < 65536) (hk1 : kd j1 = (1, N1)) (hj1 : j1 < 572) (hd : 2 ≤ d)  (v : gV) (hp : p_X11_copyRow_0 j0 N0 j1 N1    v) (hQ : gqV Q (f_X11_copyRow_0 j0 N0 j1 N1   v)) : gG E m_X11_copyRow d Q 0 0 (rS v) 0 [(0, .ref (gX E + j0)), (1, .ref (gX E + j1))] [] := by
  refine g_aload_n 0 dX11_copyRow_0 rfl ?_
  refine g_iconst dX11_copyRow_1 (0 : Int32) (by decide) ?_
  refine g_aload_n 1 dX11_copyRow_2 rfl ?_
  refine g_iconst dX11_copyRow_3 (0 : Int32) (by decide) ?_
  refine g_aload_n 0 dX11_copyRow_4 rfl ?_
  refine g_alen (nI N0) hk0 (by decide) hj0 rfl dX11_copyRow_5 ?_
  refine g_aload_n 1 dX11_copyRow_6 rfl ?_
  refine g_alen (nI N1) hk1 (by decide) hj1 rfl dX11_copyRow_7 ?_
  refine r_mmin mw_X11_363 rfl (Nat.le_of_ble_eq_true rfl) (by omega) dX11_copyRow_8 ?_
  obtain ⟨h1, hp⟩ := hp
  obtain ⟨h2, hp⟩ := hp
  obtain ⟨h3, hp⟩ := hp
  refine r_copy ac_X11_368 rfl hk0 hk1 hj0 hj1 h1 h2 h3 (Nat.le_of_ble_eq_true rfl) (by omega) dX11_copyRow_11 ?_
  refine g_lv (lv' := []) [] rfl ?_
  exact w_X11_copyRow_14 j0 N0 j1 N1 hN0 hk0 hj0 hN1 hk1 hj1 hd     (vRow v j1 (va_cpy (v.1 j0) (v.1 j1) 0 0 (if (nI N1) < (nI N0) then (nI N1) else (nI N0)).toNatClampNeg)) hp hQ
def f_X11_copyRow (j0 : Nat) (N0 : Nat) (j1 : Nat) (N1 : Nat)  (v : gV) : gV := f_X11_copyRow_0 j0 N0 j1 N1  v
def p_X11_copyRow (j0 : Nat) (N0 : Nat) (j1 : Nat) (N1 : Nat)  (v : gV) : Prop := p_X11_copyRow_0 j0 N0 j1 N1  v
theorem c_X11_copyRow {E : gE} {d : Nat} (j0 : Nat) (N0 : Nat) (j1 : Nat) (N1 : Nat) (hN0 : N0 < 65536) (hk0 : kd j0 = (1, N0)) (hj0 : j0 < 572) (hN1 : N1 < 65536) (hk1 : kd j1 = (1, N1)) (hj1 : j1 < 572) (hd : 2 ≤ d)  (v : gV) (hp : p_X11_copyRow j0 N0 j1 N1  v) : CT E m_X11_copyRow d 0 0 [.ref (gX E + j0), .ref (gX E + j1)] (rS v) (Cq (.inl none) (f_X11_copyRow j0 N0 j1 N1  v)) := CT.of ok_X11_copyRow rfl (Nat.le_of_ble_eq_true rfl) (w_X11_copyRow_0 j0 N0 j1 N1 hN0 hk0 hj0 hN1 hk1 hj1 hd  v hp ⟨rfl, rfl⟩)
def f_X11_closeGap_28 (j0 : Nat) (N0 : Nat)  (v : gV) : gV := v
def p_X11_closeGap_28 (j0 : Nat) (N0 : Nat)  (v : gV) : Prop := True
set_option maxHeartbeats 4000000 in
set_option maxRecDepth 100000 in
theorem w_X11_closeGap_28 {E : gE} {d : Nat} {Q : gO → gS → Prop} (j0 : Nat) (N0 : Nat) (hN0 : N0 < 65536) (hk0 : kd j0 = (1, N0)) (hj0 : j0 < 572) (hd : 0 ≤ d)  (v : gV) (hp : p_X11_closeGap_28 j0 N0    v) (hQ : gqV Q (f_X11_closeGap_28 j0 N0   v)) : gG E m_X11_closeGap d Q 0 0 (rS v) 28 [] [] := by
  exact g_vret rfl dX11_closeGap_28 hQ
def f_X11_closeGap_22 (j0 : Nat) (N0 : Nat) (K2 : Int32 → gV → gV)  (x2 : Int32) (v : gV) : gV := K2 (x2 + 1) v
def p_X11_closeGap_22 (j0 : Nat) (N0 : Nat) (K2 : Int32 → gV → gV)  (PK2 : Int32 → gV → Prop)  (x2 : Int32) (v : gV) : Prop := PK2 (x2 + 1) v
set_option maxHeartbeats 4000000 in
set_option maxRecDepth 100000 in
theorem w_X11_closeGap_22 {E : gE} {d : Nat} {Q : gO → gS → Prop} (j0 : Nat) (N0 : Nat) (hN0 : N0 < 65536) (hk0 : kd j0 = (1, N0)) (hj0 : j0 < 572) (hd : 0 ≤ d) (K2 : Int32 → gV → gV)  (PK2 : Int32 → gV → Prop)  (hK2 : ∀ (x2 : Int32) (v : gV), PK2 x2 v → gqV Q (K2 x2 v) → gG E m_X11_closeGap d Q 0 0 (rS v) 2 [(0, .ref (gX E + j0)), (2, .int x2)] [])  (x2 : Int32) (v : gV) (hp : p_X11_closeGap_22 j0 N0 K2 PK2 x2 v) (hQ : gqV Q (f_X11_closeGap_22 j0 N0 K2 x2 v)) : gG E m_X11_closeGap d Q 0 0 (rS v) 22 [(0, .ref (gX E + j0)), (2, .int x2)] [] := by
  refine g_iinc 1 (x2 + 1) [(2, .int (x2 + 1)), (0, .ref (gX E + j0))] dX11_closeGap_22 rfl rfl (by decide) rfl ?_
  refine g_goto 2 dX11_closeGap_25 (by decide) ?_
  refine g_lv (lv' := [(0, .ref (gX E + j0)), (2, .int (x2 + 1))]) [1, 0] rfl ?_
  exact hK2 (x2 + 1) v hp hQ
def f_X11_closeGap_2 (j0 : Nat) (N0 : Nat) : Nat → Int32 → gV → gV
  | 0, _, v => v
  | n + 1, x2, v => if x2 < 0 then (f_X11_closeGap_28 j0 N0   v) else (if ((nI N0) - (1 : Int32)) ≤ x2 then (f_X11_closeGap_28 j0 N0   v) else (f_X11_closeGap_22 j0 N0 (fun x2 v => f_X11_closeGap_2 j0 N0  n x2 v) x2 (vM v j0 x2.toNatClampNeg (v.1 j0 (x2 + (1 : Int32)).toNatClampNeg))))
def p_X11_closeGap_2 (j0 : Nat) (N0 : Nat) : Nat → Int32 → gV → Prop
  | 0, _, _ => False
  | n + 1, x2, v => ((x2 < 0) → (p_X11_closeGap_28 j0 N0    v)) ∧ (¬ (x2 < 0) → (((((nI N0) - (1 : Int32)) ≤ x2) → (p_X11_closeGap_28 j0 N0    v)) ∧ (¬ (((nI N0) - (1 : Int32)) ≤ x2) → ((vp_in (x2 + (1 : Int32)) N0) ∧ ((vp_in x2 N0) ∧ (p_X11_closeGap_22 j0 N0 (fun x2 v => f_X11_closeGap_2 j0 N0  n x2 v) (fun x2 v => p_X11_closeGap_2 j0 N0   n x2 v) x2 (vM v j0 x2.toNatClampNeg (v.1 j0 (x2 + (1 : Int32)).toNatClampNeg))))))))
set_option maxHeartbeats 4000000 in
set_option maxRecDepth 100000 in
theorem w_X11_closeGap_2 {E : gE} {d : Nat} {Q : gO → gS → Prop} (j0 : Nat) (N0 : Nat) (hN0 : N0 < 65536) (hk0 : kd j0 = (1, N0)) (hj0 : j0 < 572) (hd : 0 ≤ d) : ∀ (n : Nat) (x2 : Int32) (v : gV), p_X11_closeGap_2 j0 N0   n x2 v → gqV Q (f_X11_closeGap_2 j0 N0  n x2 v) → gG E m_X11_closeGap d Q 0 0 (rS v) 2 [(0, .ref (gX E + j0)), (2, .int x2)] [] := by
  intro n
  induction n with
  | zero => intro x2 v hp; exact hp.elim
  | succ n ih =>
    intro x2 v hp hQ
    refine g_iload_n 1 dX11_closeGap_2 rfl ?_
    refine g_if_lt 28 dX11_closeGap_3 (by decide) (fun h1 => ?_) (fun h1 => ?_)
    · have hQ := qp (P := gqV Q) h1 hQ
      have hp := hp.1 h1
      refine g_lv (lv' := []) [] rfl ?_
      exact w_X11_closeGap_28 j0 N0 hN0 hk0 hj0 hd     v hp hQ
    · have hQ := qn (P := gqV Q) h1 hQ
      have hp := hp.2 h1
      refine g_iload_n 1 dX11_closeGap_6 rfl ?_
      refine g_aload_n 0 dX11_closeGap_7 rfl ?_
      refine g_alen (nI N0) hk0 (by decide) hj0 rfl dX11_closeGap_8 ?_
      refine g_iconst dX11_closeGap_9 (1 : Int32) (by decide) ?_
      refine g_isub dX11_closeGap_10 ?_
      refine g_icmp_ge 28 dX11_closeGap_11 (by decide) (fun h2 => ?_) (fun h2 => ?_)
      · have hQ := qp (P := gqV Q) h2 hQ
        have hp := hp.1 h2
        refine g_lv (lv' := []) [] rfl ?_
        exact w_X11_closeGap_28 j0 N0 hN0 hk0 hj0 hd     v hp hQ
      · have hQ := qn (P := gqV Q) h2 hQ
        have hp := hp.2 h2
        refine g_aload_n 0 dX11_closeGap_14 rfl ?_
        refine g_iload_n 1 dX11_closeGap_15 rfl ?_
        refine g_aload_n 0 dX11_closeGap_16 rfl ?_
        refine g_iload_n 1 dX11_closeGap_17 rfl ?_
        refine g_iconst dX11_closeGap_18 (1 : Int32) (by decide) ?_
        refine g_iadd dX11_closeGap_19 ?_
        obtain ⟨h3, hp⟩ := hp
        refine g_iald hk0 hj0 h3 dX11_closeGap_20 ?_
        obtain ⟨h4, hp⟩ := hp
        refine r_iast hk0 hj0 h4 dX11_closeGap_21 ?_
        exact w_X11_closeGap_22 j0 N0 hN0 hk0 hj0 hd (fun x2 v => f_X11_closeGap_2 j0 N0  n x2 v) (fun x2 v => p_X11_closeGap_2 j0 N0   n x2 v) ih x2 (vM v j0 x2.toNatClampNeg (v.1 j0 (x2 + (1 : Int32)).toNatClampNeg)) hp hQ
def f_X11_closeGap_0 (j0 : Nat) (N0 : Nat) (x1 : Int32) (v : gV) : gV := f_X11_closeGap_2 j0 N0  5000 x1 v
def p_X11_closeGap_0 (j0 : Nat) (N0 : Nat) (x1 : Int32) (v : gV) : Prop := p_X11_closeGap_2 j0 N0   5000 x1 v
set_option maxHeartbeats 4000000 in
set_option maxRecDepth 100000 in
theorem w_X11_closeGap_0 {E : gE} {d : Nat} {Q : gO → gS → Prop} (j0 : Nat) (N0 : Nat) (hN0 : N0 < 65536) (hk0 : kd j0 = (1, N0)) (hj0 : j0 < 572) (hd : 0 ≤ d) (x1 : Int32) (v : gV) (hp : p_X11_closeGap_0 j0 N0   x1 v) (hQ : gqV Q (f_X11_closeGap_0 j0 N0  x1 v)) : gG E m_X11_closeGap d Q 0 0 (rS v) 0 [(0, .ref (gX E + j0)), (1, .int x1)] [] := by
  refine g_iload_n 1 dX11_closeGap_0 rfl ?_
  refine g_istore_n [(2, .int x1), (0, .ref (gX E + j0)), (1, .int x1)] dX11_closeGap_1 rfl (by decide) rfl ?_
  refine g_lv (lv' := [(0, .ref (gX E + j0)), (2, .int x1)]) [1, 0] rfl ?_
  exact w_X11_closeGap_2 j0 N0 hN0 hk0 hj0 hd    5000 x1 v hp hQ
def f_X11_closeGap (j0 : Nat) (N0 : Nat) (x1 : Int32) (v : gV) : gV := f_X11_closeGap_0 j0 N0 x1 v
def p_X11_closeGap (j0 : Nat) (N0 : Nat) (x1 : Int32) (v : gV) : Prop := p_X11_closeGap_0 j0 N0 x1 v
theorem c_X11_closeGap {E : gE} {d : Nat} (j0 : Nat) (N0 : Nat) (hN0 : N0 < 65536) (hk0 : kd j0 = (1, N0)) (hj0 : j0 < 572) (hd : 0 ≤ d) (x1 : Int32) (v : gV) (hp : p_X11_closeGap j0 N0 x1 v) : CT E m_X11_closeGap d 0 0 [.ref (gX E + j0), .int x1] (rS v) (Cq (.inl none) (f_X11_closeGap j0 N0 x1 v)) := CT.of ok_X11_closeGap rfl (Nat.le_of_ble_eq_true rfl) (w_X11_closeGap_0 j0 N0 hN0 hk0 hj0 hd x1 v hp ⟨rfl, rfl⟩)
