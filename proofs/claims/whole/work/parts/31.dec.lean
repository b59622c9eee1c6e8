def f_X11_sumOfRow_4 (j0 : Nat) (N0 : Nat) : Nat → Int32 → Int32 → Int32 → gV → Int32
  | 0, _, _, _, v => 0
  | n + 1, x1, x2, x3, v => if x1 ≤ x3 then x2 else (f_X11_sumOfRow_4 j0 N0  n x1 (x2 + (v.1 j0 x3.toNatClampNeg)) (x3 + 1) v)
def p_X11_sumOfRow_4 (j0 : Nat) (N0 : Nat) : Nat → Int32 → Int32 → Int32 → gV → Prop
  | 0, _, _, _, _ => False
  | n + 1, x1, x2, x3, v => ((x1 ≤ x3) → (True)) ∧ (¬ (x1 ≤ x3) → ((vp_in x3 N0) ∧ (p_X11_sumOfRow_4 j0 N0   n x1 (x2 + (v.1 j0 x3.toNatClampNeg)) (x3 + 1) v)))
set_option maxHeartbeats 4000000 in
set_option maxRecDepth 100000 in
theorem w_X11_sumOfRow_4 {E : gE} {d : Nat} {Q : gO → gS → Prop} (j0 : Nat) (N0 : Nat) (hN0 : N0 < 65536) (hk0 : kd j0 = (1, N0)) (hj0 : j0 < 572) (hd : 0 ≤ d) : ∀ (n : Nat) (x1 : Int32) (x2 : Int32) (x3 : Int32) (v : gV), p_X11_sumOfRow_4 j0 N0   n x1 x2 x3 v → gqI Q v (f_X11_sumOfRow_4 j0 N0  n x1 x2 x3 v) → gG E m_X11_sumOfRow d Q 0 0 (rS v) 4 [(0, .ref (gX E + j0)), (1, .int x1), (2, .int x2), (3, .int x3)] [] := by
  intro n
  induction n with
  | zero => intro x1 x2 x3 v hp; exact hp.elim
  | succ n ih =>
    intro x1 x2 x3 v hp hQ
    refine g_iload_n 3 dX11_sumOfRow_4 rfl ?_
    refine g_iload_n 1 dX11_sumOfRow_5 rfl ?_
    refine g_icmp_ge 21 dX11_sumOfRow_6 (by decide) (fun h1 => ?_) (fun h1 => ?_)
    · have hQ := qp (P := gqI Q v) h1 hQ
      have hp := hp.1 h1
      refine g_iload_n 2 dX11_sumOfRow_21 rfl ?_
      exact g_iret rfl dX11_sumOfRow_22 hQ
    · have hQ := qn (P := gqI Q v) h1 hQ
      have hp := hp.2 h1
      refine g_iload_n 2 dX11_sumOfRow_9 rfl ?_
      refine g_aload_n 0 dX11_sumOfRow_10 rfl ?_
      refine g_iload_n 3 dX11_sumOfRow_11 rfl ?_
      obtain ⟨h2, hp⟩ := hp
      refine g_iald hk0 hj0 h2 dX11_sumOfRow_12 ?_
      refine g_iadd dX11_sumOfRow_13 ?_
      refine g_istore_n [(2, .int (x2 + (v.1 j0 x3.toNatClampNeg))), (0, .ref (gX E + j0)), (1, .int x1), (3, .int x3)] dX11_sumOfRow_14 rfl (by decide) rfl ?_
      refine g_iinc 3 (x3 + 1) [(3, .int (x3 + 1)), (2, .int (x2 + (v.1 j0 x3.toNatClampNeg))), (0, .ref (gX E + j0)), (1, .int x1)] dX11_sumOfRow_15 rfl rfl (by decide) rfl ?_
      refine g_goto 4 dX11_sumOfRow_18 (by decide) ?_
      refine g_lv (lv' := [(0, .ref (gX E + j0)), (1, .int x1), (2, .int (x2 + (v.1 j0 x3.toNatClampNeg))), (3, .int (x3 + 1))]) [2, 3, 1, 0] rfl ?_
      exact ih x1 (x2 + (v.1 j0 x3.toNatClampNeg)) (x3 + 1) v hp hQ
def f_X11_sumOfRow_0 (j0 : Nat) (N0 : Nat) (x1 : Int32) (v : gV) : Int32 := f_X11_sumOfRow_4 j0 N0  5000 x1 (0 : Int32) (0 : Int32) v
def p_X11_sumOfRow_0 (j0 : Nat) (N0 : Nat) (x1 : Int32) (v : gV) : Prop := p_X11_sumOfRow_4 j0 N0   5000 x1 (0 : Int32) (0 : Int32) v
set_option maxHeartbeats 4000000 in
set_option maxRecDepth 100000 in
theorem w_X11_sumOfRow_0 {E : gE} {d : Nat} {Q : gO → gS → Prop} (j0 : Nat) (N0 : Nat) (hN0 : N0 < 65536) (hk0 : kd j0 = (1, N0)) (hj0 : j0 < 572) (hd : 0 ≤ d) (x1 : Int32) (v : gV) (hp : p_X11_sumOfRow_0 j0 N0   x1 v) (hQ : gqI Q v (f_X11_sumOfRow_0 j0 N0  x1 v)) : gG E m_X11_sumOfRow d Q 0 0 (rS v) 0 [(0, .ref (gX E + j0)), (1, .int x1)] [] := by
  refine g_iconst dX11_sumOfRow_0 (0 : Int32) (by decide) ?_
  refine g_istore_n [(2, .int ((0 : Int32))), (0, .ref (gX E + j0)), (1, .int x1)] dX11_sumOfRow_1 rfl (by decide) rfl ?_
  refine g_iconst dX11_sumOfRow_2 (0 : Int32) (by decide) ?_
  refine g_istore_n [(3, .int ((0 : Int32))), (2, .int ((0 : Int32))), (0, .ref (gX E + j0)), (1, .int x1)] dX11_sumOfRow_3 rfl (by decide) rfl ?_
  refine g_lv (lv' := [(0, .ref (gX E + j0)), (1, .int x1), (2, .int ((0 : Int32))), (3, .int ((0 : Int32)))]) [2, 3, 1, 0] rfl ?_
  exact w_X11_sumOfRow_4 j0 N0 hN0 hk0 hj0 hd    5000 x1 (0 : Int32) (0 : Int32) v hp hQ
def f_X11_sumOfRow (j0 : Nat) (N0 : Nat) (x1 : Int32) (v : gV) : Int32 := f_X11_sumOfRow_0 j0 N0 x1 v
def p_X11_sumOfRow (j0 : Nat) (N0 : Nat) (x1 : Int32) (v : gV) : Prop := p_X11_sumOfRow_0 j0 N0 x1 v
theorem c_X11_sumOfRow {E : gE} {d : Nat} (j0 : Nat) (N0 : Nat) (hN0 : N0 < 65536) (hk0 : kd j0 = (1, N0)) (hj0 : j0 < 572) (hd : 0 ≤ d) (x1 : Int32) (v : gV) (hp : p_X11_sumOfRow j0 N0 x1 v) : CT E m_X11_sumOfRow d 0 0 [.ref (gX E + j0), .int x1] (rS v) (Cq (.inl (some (.int (f_X11_sumOfRow j0 N0 x1 v)))) v) := CT.of ok_X11_sumOfRow rfl (Nat.le_of_ble_eq_true rfl) (w_X11_sumOfRow_0 j0 N0 hN0 hk0 hj0 hd x1 v hp ⟨rfl, rfl⟩)
def f_X11_isCause_29  (s0 : Int32) (v : gV) : Int32 := s0
def p_X11_isCause_29  (s0 : Int32) (v : gV) : Prop := (s0 = 0 ∨ s0 = 1) ∧ (True)
set_option maxHeartbeats 4000000 in
set_option maxRecDepth 100000 in
theorem w_X11_isCause_29 {E : gE} {d : Nat} {Q : gO → gS → Prop}   (hd : 0 ≤ d) (s0 : Int32) (v : gV) (hp : p_X11_isCause_29   s0 v) (hQ : gqI Q v (f_X11_isCause_29  s0 v)) : gG E m_X11_isCause d Q 0 0 (rS v) 29 [] [.int s0] := by
  obtain ⟨h2, hp⟩ := hp
  exact g_zret rfl (nz h2) dX11_isCause_29 hQ
def f_X11_isCause_24   (v : gV) : Int32 := f_X11_isCause_29  (1 : Int32) v
def p_X11_isCause_24   (v : gV) : Prop := p_X11_isCause_29   (1 : Int32) v
set_option maxHeartbeats 4000000 in
set_option maxRecDepth 100000 in
theorem w_X11_isCause_24 {E : gE} {d : Nat} {Q : gO → gS → Prop}   (hd : 0 ≤ d)  (v : gV) (hp : p_X11_isCause_24    v) (hQ : gqI Q v (f_X11_isCause_24   v)) : gG E m_X11_isCause d Q 0 0 (rS v) 24 [] [] := by
  refine g_iconst dX11_isCause_24 (1 : Int32) (by decide) ?_
  refine g_goto 29 dX11_isCause_25 (by decide) ?_
  exact w_X11_isCause_29  hd    (1 : Int32) v hp hQ
def f_X11_isCause_0  (x0 : Int32) (v : gV) : Int32 := if x0 = (114 : Int32) then (f_X11_isCause_24   v) else (if x0 = (103 : Int32) then (f_X11_isCause_24   v) else (if x0 = (119 : Int32) then (f_X11_isCause_24   v) else (if x0 = (102 : Int32) then (f_X11_isCause_24   v) else (f_X11_isCause_29  (0 : Int32) v))))
def p_X11_isCause_0  (x0 : Int32) (v : gV) : Prop := ((x0 = (114 : Int32)) → (p_X11_isCause_24    v)) ∧ (¬ (x0 = (114 : Int32)) → (((x0 = (103 : Int32)) → (p_X11_isCause_24    v)) ∧ (¬ (x0 = (103 : Int32)) → (((x0 = (119 : Int32)) → (p_X11_isCause_24    v)) ∧ (¬ (x0 = (119 : Int32)) → (((x0 = (102 : Int32)) → (p_X11_isCause_24    v)) ∧ (¬ (x0 = (102 : Int32)) → (p_X11_isCause_29   (0 : Int32) v))))))))
set_option maxHeartbeats 4000000 in
set_option maxRecDepth 100000 in
theorem w_X11_isCause_0 {E : gE} {d : Nat} {Q : gO → gS → Prop}   (hd : 0 ≤ d) (x0 : Int32) (v : gV) (hp : p_X11_isCause_0   x0 v) (hQ : gqI Q v (f_X11_isCause_0  x0 v)) : gG E m_X11_isCause d Q 0 0 (rS v) 0 [(0, .int x0)] [] := by
  refine g_iload_n 0 dX11_isCause_0 rfl ?_
  refine g_bipush dX11_isCause_1 (114 : Int32) (by decide) ?_
  refine g_icmp_eq 24 dX11_isCause_3 (by decide) (fun h1 => ?_) (fun h1 => ?_)
  · have hQ := qp (P := gqI Q v) h1 hQ
    have hp := hp.1 h1
    refine g_lv (lv' := []) [] rfl ?_
    exact w_X11_isCause_24  hd     v hp hQ
  · have hQ := qn (P := gqI Q v) h1 hQ
    have hp := hp.2 h1
    refine g_iload_n 0 dX11_isCause_6 rfl ?_
    refine g_bipush dX11_isCause_7 (103 : Int32) (by decide) ?_
    refine g_icmp_eq 24 dX11_isCause_9 (by decide) (fun h3 => ?_) (fun h3 => ?_)
    · have hQ := qp (P := gqI Q v) h3 hQ
      have hp := hp.1 h3
      refine g_lv (lv' := []) [] rfl ?_
      exact w_X11_isCause_24  hd     v hp hQ
    · have hQ := qn (P := gqI Q v) h3 hQ
      have hp := hp.2 h3
      refine g_iload_n 0 dX11_isCause_12 rfl ?_
      refine g_bipush dX11_isCause_13 (119 : Int32) (by decide) ?_
      refine g_icmp_eq 24 dX11_isCause_15 (by decide) (fun h4 => ?_) (fun h4 => ?_)
      · have hQ := qp (P := gqI Q v) h4 hQ
        have hp := hp.1 h4
        refine g_lv (lv' := []) [] rfl ?_
        exact w_X11_isCause_24  hd     v hp hQ
      · have hQ := qn (P := gqI Q v) h4 hQ
        have hp := hp.2 h4
        refine g_iload_n 0 dX11_isCause_18 rfl ?_
        refine g_bipush dX11_isCause_19 (102 : Int32) (by decide) ?_
        refine g_icmp_ne 28 dX11_isCause_21 (by decide) (fun h5 => ?_) (fun h5 => ?_)
        · have hQ := qn (P := gqI Q v) h5 hQ
          have hp := hp.2 h5
          refine g_iconst dX11_isCause_28 (0 : Int32) (by decide) ?_
          refine g_lv (lv' := []) [] rfl ?_
          exact w_X11_isCause_29  hd    (0 : Int32) v hp hQ
        · have hQ := qp (P := gqI Q v) h5 hQ
          have hp := hp.1 h5
          refine g_lv (lv' := []) [] rfl ?_
          exact w_X11_isCause_24  hd     v hp hQ
def f_X11_isCause  (x0 : Int32) (v : gV) : Int32 := f_X11_isCause_0 x0 v
def p_X11_isCause  (x0 : Int32) (v : gV) : Prop := p_X11_isCause_0 x0 v
theorem c_X11_isCause {E : gE} {d : Nat}   (hd : 0 ≤ d) (x0 : Int32) (v : gV) (hp : p_X11_isCause x0 v) : CT E m_X11_isCause d 0 0 [.int x0] (rS v) (Cq (.inl (some (.int (f_X11_isCause x0 v)))) v) := CT.of ok_X11_isCause rfl (Nat.le_of_ble_eq_true rfl) (w_X11_isCause_0  hd x0 v hp ⟨rfl, rfl⟩)
def f_X12_thrown_0   (v : gV) : Int32 := v.1 559 6
def p_X12_thrown_0   (v : gV) : Prop := True
set_option maxHeartbeats 4000000 in
set_option maxRecDepth 100000 in
theorem w_X12_thrown_0 {E : gE} {d : Nat} {Q : gO → gS → Prop}   (hd : 0 ≤ d)  (v : gV) (hp : p_X12_thrown_0    v) (hQ : gqI Q v (f_X12_thrown_0   v)) : gG E m_X12_thrown d Q 0 0 (rS v) 0 [(0, .ref (gX E + 559))] [] := by
  refine g_aload_n 0 dX12_thrown_0 rfl ?_
  refine r_get (.int (v.1 559 6)) f_X12_28_X12 rfl (by decide : kd 559 = (0, 9)) (show 559 < 572 by decide) dX12_thrown_1 (fun _ => rfl) ?_
  exact g_iret rfl dX12_thrown_4 hQ
def f_X12_thrown   (v : gV) : Int32 := f_X12_thrown_0  v
def p_X12_thrown   (v : gV) : Prop := p_X12_thrown_0  v
theorem c_X12_thrown {E : gE} {d : Nat}   (hd : 0 ≤ d)  (v : gV) (hp : p_X12_thrown  v) : CT E m_X12_thrown d 0 0 [.ref (gX E + 559)] (rS v) (Cq (.inl (some (.int (f_X12_thrown  v)))) v) := CT.of ok_X12_thrown rfl (Nat.le_of_ble_eq_true rfl) (w_X12_thrown_0  hd  v hp ⟨rfl, rfl⟩)
def f_X12_in_15  (s0 : Int32) (v : gV) : Int32 := s0
def p_X12_in_15  (s0 : Int32) (v : gV) : Prop := (s0 = 0 ∨ s0 = 1) ∧ (True)
set_option maxHeartbeats 4000000 in
set_option maxRecDepth 100000 in
theorem w_X12_in_15 {E : gE} {d : Nat} {Q : gO → gS → Prop}   (hd : 0 ≤ d) (s0 : Int32) (v : gV) (hp : p_X12_in_15   s0 v) (hQ : gqI Q v (f_X12_in_15  s0 v)) : gG E m_X12_in d Q 0 0 (rS v) 15 [] [.int s0] := by
  obtain ⟨h2, hp⟩ := hp
  exact g_zret rfl (nz h2) dX12_in_15 hQ
def f_X12_in_14   (v : gV) : Int32 := f_X12_in_15  (0 : Int32) v
def p_X12_in_14   (v : gV) : Prop := p_X12_in_15   (0 : Int32) v
set_option maxHeartbeats 4000000 in
set_option maxRecDepth 100000 in
theorem w_X12_in_14 {E : gE} {d : Nat} {Q : gO → gS → Prop}   (hd : 0 ≤ d)  (v : gV) (hp : p_X12_in_14    v) (hQ : gqI Q v (f_X12_in_14   v)) : gG E m_X12_in d Q 0 0 (rS v) 14 [] [] := by
  refine g_iconst dX12_in_14 (0 : Int32) (by decide) ?_
  exact w_X12_in_15  hd    (0 : Int32) v hp hQ
def f_X12_in_0  (x0 : Int32) (x1 : Int32) (x2 : Int32) (v : gV) : Int32 := if x0 < x1 then (f_X12_in_14   v) else (if x2 < x0 then (f_X12_in_14   v) else (f_X12_in_15  (1 : Int32) v))
def p_X12_in_0  (x0 : Int32) (x1 : Int32) (x2 : Int32) (v : gV) : Prop := ((x0 < x1) → (p_X12_in_14    v)) ∧ (¬ (x0 < x1) → (((x2 < x0) → (p_X12_in_14    v)) ∧ (¬ (x2 < x0) → (p_X12_in_15   (1 : Int32) v))))
set_option maxHeartbeats 4000000 in
set_option maxRecDepth 100000 in
theorem w_X12_in_0 {E : gE} {d : Nat} {Q : gO → gS → Prop}   (hd : 0 ≤ d) (x0 : Int32) (x1 : Int32) (x2 : Int32) (v : gV) (hp : p_X12_in_0   x0 x1 x2 v) (hQ : gqI Q v (f_X12_in_0  x0 x1 x2 v)) : gG E m_X12_in d Q 0 0 (rS v) 0 [(0, .int x0), (1, .int x1), (2, .int x2)] [] := by
  refine g_iload_n 0 dX12_in_0 rfl ?_
  refine g_iload_n 1 dX12_in_1 rfl ?_
  refine g_icmp_lt 14 dX12_in_2 (by decide) (fun h1 => ?_) (fun h1 => ?_)
  · have hQ := qp (P := gqI Q v) h1 hQ
    have hp := hp.1 h1
    refine g_lv (lv' := []) [] rfl ?_
    exact w_X12_in_14  hd     v hp hQ
  · have hQ := qn (P := gqI Q v) h1 hQ
    have hp := hp.2 h1
    refine g_iload_n 0 dX12_in_5 rfl ?_
    refine g_iload_n 2 dX12_in_6 rfl ?_
    refine g_icmp_gt 14 dX12_in_7 (by decide) (fun h3 => ?_) (fun h3 => ?_)
    · have hQ := qp (P := gqI Q v) h3 hQ
      have hp := hp.1 h3
      refine g_lv (lv' := []) [] rfl ?_
      exact w_X12_in_14  hd     v hp hQ
    · have hQ := qn (P := gqI Q v) h3 hQ
      have hp := hp.2 h3
      refine g_iconst dX12_in_10 (1 : Int32) (by decide) ?_
      refine g_goto 15 dX12_in_11 (by decide) ?_
      refine g_lv (lv' := []) [] rfl ?_
      exact w_X12_in_15  hd    (1 : Int32) v hp hQ
def f_X12_in  (x0 : Int32) (x1 : Int32) (x2 : Int32) (v : gV) : Int32 := f_X12_in_0 x0 x1 x2 v
def p_X12_in  (x0 : Int32) (x1 : Int32) (x2 : Int32) (v : gV) : Prop := p_X12_in_0 x0 x1 x2 v
theorem c_X12_in {E : gE} {d : Nat}   (hd : 0 ≤ d) (x0 : Int32) (x1 : Int32) (x2 : Int32) (v : gV) (hp : p_X12_in x0 x1 x2 v) : CT E m_X12_in d 0 0 [.int x0, .int x1, .int x2] (rS v) (Cq (.inl (some (.int (f_X12_in x0 x1 x2 v)))) v) := CT.of ok_X12_in rfl (Nat.le_of_ble_eq_true rfl) (w_X12_in_0  hd x0 x1 x2 v hp ⟨rfl, rfl⟩)
def f_X12_copy_23 (j0 : Nat) (N0 : Nat) (j2 : Nat) (N2 : Nat) (K3 : Int32 → Int32 → Int32 → gV → gV)  (x1 : Int32) (x3 : Int32) (x4 : Int32) (v : gV) : gV := K3 x1 x3 (x4 + 1) v
def p_X12_copy_23 (j0 : Nat) (N0 : Nat) (j2 : Nat) (N2 : Nat) (K3 : Int32 → Int32 → Int32 → gV → gV)  (PK3 : Int32 → Int32 → Int32 → gV → Prop)  (x1 : Int32) (x3 : Int32) (x4 : Int32) (v : gV) : Prop := PK3 x1 x3 (x4 + 1) v
set_option maxHeartbeats 4000000 in
set_option maxRecDepth 100000 in
theorem w_X12_copy_23 {E : gE} {d : Nat} {Q : gO → gS → Prop} (j0 : Nat) (N0 : Nat) (j2 : Nat) (N2 : Nat) (hN0 : N0 < 65536) (hk0 : kd j0 = (1, N0)) (hj0 : j0 < 572) (hN2 : N2 < 65536) (hk2 : kd j2 = (1, N2)) (hj2 : j2 < 572) (hd : 0 ≤ d) (K3 : Int32 → Int32 → Int32 → gV → gV)  (PK3 : Int32 → Int32 → Int32 → gV → Prop)  (hK3 : ∀ (x1 : Int32) (x3 : Int32) (x4 : Int32) (v : gV), PK3 x1 x3 x4 v → gqV Q (K3 x1 x3 x4 v) → gG E m_X12_copy d Q 0 0 (rS v) 3 [(0, .ref (gX E + j0)), (1, .int x1), (2, .ref (gX E + j2)), (3, .int x3), (4, .int x4)] [])  (x1 : Int32) (x3 : Int32) (x4 : Int32) (v : gV) (hp : p_X12_copy_23 j0 N0 j2 N2 K3 PK3 x1 x3 x4 v) (hQ : gqV Q (f_X12_copy_23 j0 N0 j2 N2 K3 x1 x3 x4 v)) : gG E m_X12_copy d Q 0 0 (rS v) 23 [(0, .ref (gX E + j0)), (1, .int x1), (2, .ref (gX E + j2)), (3, .int x3), (4, .int x4)] [] := by
  refine g_iinc 4 (x4 + 1) [(4, .int (x4 + 1)), (0, .ref (gX E + j0)), (1, .int x1), (2, .ref (gX E + j2)), (3, .int x3)] dX12_copy_23 rfl rfl (by decide) rfl ?_
  refine g_goto 3 dX12_copy_26 (by decide) ?_
  refine g_lv (lv' := [(0, .ref (gX E + j0)), (1, .int x1), (2, .ref (gX E + j2)), (3, .int x3), (4, .int (x4 + 1))]) [1, 2, 3, 4, 0] rfl ?_
  exact hK3 x1 x3 (x4 + 1) v hp hQ
def f_X12_copy_3 (j0 : Nat) (N0 : Nat) (j2 : Nat) (N2 : Nat) : Nat → Int32 → Int32 → Int32 → gV → gV
  | 0, _, _, _, v => v
  | n + 1, x1, x3, x4, v => if (300 : Int32) ≤ x4 then v else (f_X12_copy_23 j0 N0 j2 N2 (fun x1 x3 x4 v => f_X12_copy_3 j0 N0 j2 N2  n x1 x3 x4 v) x1 x3 x4 (vM v j2 (x3 + x4).toNatClampNeg (v.1 j0 (x1 + x4).toNatClampNeg)))
def p_X12_copy_3 (j0 : Nat) (N0 : Nat) (j2 : Nat) (N2 : Nat) : Nat → Int32 → Int32 → Int32 → gV → Prop
  | 0, _, _, _, _ => False
  | n + 1, x1, x3, x4, v => (((300 : Int32) ≤ x4) → (True)) ∧ (¬ ((300 : Int32) ≤ x4) → ((vp_in (x1 + x4) N0) ∧ ((vp_in (x3 + x4) N2) ∧ (p_X12_copy_23 j0 N0 j2 N2 (fun x1 x3 x4 v => f_X12_copy_3 j0 N0 j2 N2  n x1 x3 x4 v) (fun x1 x3 x4 v => p_X12_copy_3 j0 N0 j2 N2   n x1 x3 x4 v) x1 x3 x4 (vM v j2 (x3 + x4).toNatClampNeg (v.1 j0 (x1 + x4).toNatClampNeg))))))
set_option maxHeartbeats 4000000 in
set_option maxRecDepth 100000 in
theorem w_X12_copy_3 {E : gE} {d : Nat} {Q : gO → gS → Prop} (j0 : Nat) (N0 : Nat) (j2 : Nat) (N2 : Nat) (hN0 : N0 < 65536) (hk0 : kd j0 = (1, N0)) (hj0 : j0 < 572) (hN2 : N2 < 65536) (hk2 : kd j2 = (1, N2)) (hj2 : j2 < 572) (hd : 0 ≤ d) : ∀ (n : Nat) (x1 : Int32) (x3 : Int32) (x4 : Int32) (v : gV), p_X12_copy_3 j0 N0 j2 N2   n x1 x3 x4 v → gqV Q (f_X12_copy_3 j0 N0 j2 N2  n x1 x3 x4 v) → gG E m_X12_copy d Q 0 0 (rS v) 3 [(0, .ref (gX E + j0)), (1, .int x1), (2, .ref (gX E + j2)), (3, .int x3), (4, .int x4)] [] := by
  intro n
  induction n with
  | zero => intro x1 x3 x4 v hp; exact hp.elim
  | succ n ih =>
    intro x1 x3 x4 v hp hQ
    refine g_iload 4 dX12_copy_3 rfl ?_
    refine g_sipush dX12_copy_5 (300 : Int32) (by decide) ?_
    refine g_icmp_ge 29 dX12_copy_8 (by decide) (fun h1 => ?_) (fun h1 => ?_)
    · have hQ := qp (P := gqV Q) h1 hQ
      have hp := hp.1 h1
      exact g_vret rfl dX12_copy_29 hQ
    · have hQ := qn (P := gqV Q) h1 hQ
      have hp := hp.2 h1
      refine g_aload_n 2 dX12_copy_11 rfl ?_
      refine g_iload_n 3 dX12_copy_12 rfl ?_
      refine g_iload 4 dX12_copy_13 rfl ?_
      refine g_iadd dX12_copy_15 ?_
      refine g_aload_n 0 dX12_copy_16 rfl ?_
      refine g_iload_n 1 dX12_copy_17 rfl ?_
      refine g_iload 4 dX12_copy_18 rfl ?_
      refine g_iadd dX12_copy_20 ?_
      obtain ⟨h2, hp⟩ := hp
      refine g_iald hk0 hj0 h2 dX12_copy_21 ?_
      obtain ⟨h3, hp⟩ := hp
      refine r_iast hk2 hj2 h3 dX12_copy_22 ?_
      exact w_X12_copy_23 j0 N0 j2 N2 hN0 hk0 hj0 hN2 hk2 hj2 hd (fun x1 x3 x4 v => f_X12_copy_3 j0 N0 j2 N2  n x1 x3 x4 v) (fun x1 x3 x4 v => p_X12_copy_3 j0 N0 j2 N2   n x1 x3 x4 v) ih x1 x3 x4 (vM v j2 (x3 + x4).toNatClampNeg (v.1 j0 (x1 + x4).toNatClampNeg)) hp hQ
def f_X12_copy_0 (j0 : Nat) (N0 : Nat) (j2 : Nat) (N2 : Nat) (x1 : Int32) (x3 : Int32) (v : gV) : gV := f_X12_copy_3 j0 N0 j2 N2  5000 x1 x3 (0 : Int32) v
def p_X12_copy_0 (j0 : Nat) (N0 : Nat) (j2 : Nat) (N2 : Nat) (x1 : Int32) (x3 : Int32) (v : gV) : Prop := p_X12_copy_3 j0 N0 j2 N2   5000 x1 x3 (0 : Int32) v
set_option maxHeartbeats 4000000 in
set_option maxRecDepth 100000 in
theorem w_X12_copy_0 {E : gE} {d : Nat} {Q : gO → gS → Prop} (j0 : Nat) (N0 : Nat) (j2 : Nat) (N2 : Nat) (hN0 : N0 < 65536) (hk0 : kd j0 = (1, N0)) (hj0 : j0 < 572) (hN2 : N2 < 65536) (hk2 : kd j2 = (1, N2)) (hj2 : j2 < 572) (hd : 0 ≤ d) (x1 : Int32) (x3 : Int32) (v : gV) (hp : p_X12_copy_0 j0 N0 j2 N2   x1 x3 v) (hQ : gqV Q (f_X12_copy_0 j0 N0 j2 N2  x1 x3 v)) : gG E m_X12_copy d Q 0 0 (rS v) 0 [(0, .ref (gX E + j0)), (1, .int x1), (2, .ref (gX E + j2)), (3, .int x3)] [] := by
  refine g_iconst dX12_copy_0 (0 : Int32) (by decide) ?_
  refine g_istore [(4, .int ((0 : Int32))), (0, .ref (gX E + j0)), (1, .int x1), (2, .ref (gX E + j2)), (3, .int x3)] dX12_copy_1 (by decide) rfl ?_
  refine g_lv (lv' := [(0, .ref (gX E + j0)), (1, .int x1), (2, .ref (gX E + j2)), (3, .int x3), (4, .int ((0 : Int32)))]) [1, 2, 3, 4, 0] rfl ?_
  exact w_X12_copy_3 j0 N0 j2 N2 hN0 hk0 hj0 hN2 hk2 hj2 hd    5000 x1 x3 (0 : Int32) v hp hQ
def f_X12_copy (j0 : Nat) (N0 : Nat) (j2 : Nat) (N2 : Nat) (x1 : Int32) (x3 : Int32) (v : gV) : gV := f_X12_copy_0 j0 N0 j2 N2 x1 x3 v
def p_X12_copy (j0 : Nat) (N0 : Nat) (j2 : Nat) (N2 : Nat) (x1 : Int32) (x3 : Int32) (v : gV) : Prop := p_X12_copy_0 j0 N0 j2 N2 x1 x3 v
theorem c_X12_copy {E : gE} {d : Nat} (j0 : Nat) (N0 : Nat) (j2 : Nat) (N2 : Nat) (hN0 : N0 < 65536) (hk0 : kd j0 = (1, N0)) (hj0 : j0 < 572) (hN2 : N2 < 65536) (hk2 : kd j2 = (1, N2)) (hj2 : j2 < 572) (hd : 0 ≤ d) (x1 : Int32) (x3 : Int32) (v : gV) (hp : p_X12_copy j0 N0 j2 N2 x1 x3 v) : CT E m_X12_copy d 0 0 [.ref (gX E + j0), .int x1, .ref (gX E + j2), .int x3] (rS v) (Cq (.inl none) (f_X12_copy j0 N0 j2 N2 x1 x3 v)) := CT.of ok_X12_copy rfl (Nat.le_of_ble_eq_true rfl) (w_X12_copy_0 j0 N0 j2 N2 hN0 hk0 hj0 hN2 hk2 hj2 hd x1 x3 v hp ⟨rfl, rfl⟩)
def f_X12_fail_5   (v : gV) : Int32 × gV := ((0 : Int32), v)
def p_X12_fail_5   (v : gV) : Prop := True
set_option maxHeartbeats 4000000 in
set_option maxRecDepth 100000 in
theorem w_X12_fail_5 {E : gE} {d : Nat} {Q : gO → gS → Prop}   (hd : 0 ≤ d)  (v : gV) (hp : p_X12_fail_5    v) (hQ : gqIV Q (f_X12_fail_5   v)) : gG E m_X12_fail d Q 0 0 (rS v) 5 [] [] := by
  refine g_iconst dX12_fail_5 (0 : Int32) (by decide) ?_
  exact g_iret rfl dX12_fail_6 hQ
def f_X12_fail_0  (x1 : Int32) (v : gV) : Int32 × gV := f_X12_fail_5   (vM v 559 6 x1)
def p_X12_fail_0  (x1 : Int32) (v : gV) : Prop := p_X12_fail_5    (vM v 559 6 x1)
set_option maxHeartbeats 4000000 in
set_option maxRecDepth 100000 in
theorem w_X12_fail_0 {E : gE} {d : Nat} {Q : gO → gS → Prop}   (hd : 0 ≤ d) (x1 : Int32) (v : gV) (hp : p_X12_fail_0   x1 v) (hQ : gqIV Q (f_X12_fail_0  x1 v)) : gG E m_X12_fail d Q 0 0 (rS v) 0 [(0, .ref (gX E + 559)), (1, .int x1)] [] := by
  refine g_aload_n 0 dX12_fail_0 rfl ?_
  refine g_iload_n 1 dX12_fail_1 rfl ?_
  refine r_put pf_X12_28_X12 rfl (by decide : kd 559 = (0, 9)) (by decide) (by decide) rfl (show 559 < 572 by decide) rfl rfl dX12_fail_2 ?_
  refine g_lv (lv' := []) [] rfl ?_
  exact w_X12_fail_5  hd     (vM v 559 6 x1) hp hQ
def f_X12_fail  (x1 : Int32) (v : gV) : Int32 × gV := f_X12_fail_0 x1 v
def p_X12_fail  (x1 : Int32) (v : gV) : Prop := p_X12_fail_0 x1 v
theorem c_X12_fail {E : gE} {d : Nat}   (hd : 0 ≤ d) (x1 : Int32) (v : gV) (hp : p_X12_fail x1 v) : CT E m_X12_fail d 0 0 [.ref (gX E + 559), .int x1] (rS v) (Cq (.inl (some (.int ((f_X12_fail x1 v).1)))) (f_X12_fail x1 v).2) := CT.of ok_X12_fail rfl (Nat.le_of_ble_eq_true rfl) (w_X12_fail_0  hd x1 v hp ⟨rfl, rfl⟩)
def f_X12_begin_18   (v : gV) : gV := v
def p_X12_begin_18   (v : gV) : Prop := True
set_option maxHeartbeats 4000000 in
set_option maxRecDepth 100000 in
theorem w_X12_begin_18 {E : gE} {d : Nat} {Q : gO → gS → Prop}   (hd : 1 ≤ d)  (v : gV) (hp : p_X12_begin_18    v) (hQ : gqV Q (f_X12_begin_18   v)) : gG E m_X12_begin d Q 0 0 (rS v) 18 [] [] := by
  exact g_vret rfl dX12_begin_18 hQ
def f_X12_begin_5   (v : gV) : gV := f_X12_begin_18   (f_X12_copy 560 300 561 300 (0 : Int32) (0 : Int32) v)
def p_X12_begin_5   (v : gV) : Prop := (p_X12_copy 560 300 561 300 (0 : Int32) (0 : Int32) v) ∧ (p_X12_begin_18    (f_X12_copy 560 300 561 300 (0 : Int32) (0 : Int32) v))
set_option maxHeartbeats 4000000 in
set_option maxRecDepth 100000 in
theorem w_X12_begin_5 {E : gE} {d : Nat} {Q : gO → gS → Prop}   (hd : 1 ≤ d)  (v : gV) (hp : p_X12_begin_5    v) (hQ : gqV Q (f_X12_begin_5   v)) : gG E m_X12_begin d Q 0 0 (rS v) 5 [(0, .ref (gX E + 559))] [] := by
  refine g_aload_n 0 dX12_begin_5 rfl ?_
  refine r_get (.ref (gX E + 560)) f_X12_7_X12 rfl (by decide : kd 559 = (0, 9)) (show 559 < 572 by decide) dX12_begin_6 (fun _ => rfl) ?_
  refine g_iconst dX12_begin_9 (0 : Int32) (by decide) ?_
  refine g_aload_n 0 dX12_begin_10 rfl ?_
  refine r_get (.ref (gX E + 561)) f_X12_13_X12 rfl (by decide : kd 559 = (0, 9)) (show 559 < 572 by decide) dX12_begin_11 (fun _ => rfl) ?_
  refine g_iconst dX12_begin_14 (0 : Int32) (by decide) ?_
  obtain ⟨h1, hp⟩ := hp
  refine g_callS (rest := []) s_X12_75 rfl (c_X12_copy (E := E) (d := d - 1) 560 300 561 300 (by decide) (by decide : kd 560 = (1, 300)) (show 560 < 572 by decide) (by decide) (by decide : kd 561 = (1, 300)) (show 561 < 572 by decide) (by omega) (0 : Int32) (0 : Int32) v h1) rfl rfl (Nat.le_of_ble_eq_true rfl) (by omega) (by decide) (by decide) dX12_begin_15 (adN ?_) axN
  refine g_lv (lv' := []) [] rfl ?_
  exact w_X12_begin_18  hd     (f_X12_copy 560 300 561 300 (0 : Int32) (0 : Int32) v) hp hQ
def f_X12_begin_0   (v : gV) : gV := f_X12_begin_5   (vM v 559 6 (0 : Int32))
def p_X12_begin_0   (v : gV) : Prop := p_X12_begin_5    (vM v 559 6 (0 : Int32))
set_option maxHeartbeats 4000000 in
set_option maxRecDepth 100000 in
theorem w_X12_begin_0 {E : gE} {d : Nat} {Q : gO → gS → Prop}   (hd : 1 ≤ d)  (v : gV) (hp : p_X12_begin_0    v) (hQ : gqV Q (f_X12_begin_0   v)) : gG E m_X12_begin d Q 0 0 (rS v) 0 [(0, .ref (gX E + 559))] [] := by
  refine g_aload_n 0 dX12_begin_0 rfl ?_
  refine g_iconst dX12_begin_1 (0 : Int32) (by decide) ?_
  refine r_put pf_X12_28_X12 rfl (by decide : kd 559 = (0, 9)) (by decide) (by decide) rfl (show 559 < 572 by decide) rfl rfl dX12_begin_2 ?_
  exact w_X12_begin_5  hd     (vM v 559 6 (0 : Int32)) hp hQ
def f_X12_begin   (v : gV) : gV := f_X12_begin_0  v
def p_X12_begin   (v : gV) : Prop := p_X12_begin_0  v
theorem c_X12_begin {E : gE} {d : Nat}   (hd : 1 ≤ d)  (v : gV) (hp : p_X12_begin  v) : CT E m_X12_begin d 0 0 [.ref (gX E + 559)] (rS v) (Cq (.inl none) (f_X12_begin  v)) := CT.of ok_X12_begin rfl (Nat.le_of_ble_eq_true rfl) (w_X12_begin_0  hd  v hp ⟨rfl, rfl⟩)
def f_X12_commit_86  (x1 : Int32) (v : gV) : Int32 × gV := (x1, v)
def p_X12_commit_86  (x1 : Int32) (v : gV) : Prop := True
set_option maxHeartbeats 4000000 in
set_option maxRecDepth 100000 in
theorem w_X12_commit_86 {E : gE} {d : Nat} {Q : gO → gS → Prop}   (hd : 1 ≤ d) (x1 : Int32) (v : gV) (hp : p_X12_commit_86   x1 v) (hQ : gqIV Q (f_X12_commit_86  x1 v)) : gG E m_X12_commit d Q 0 0 (rS v) 86 [(1, .int x1)] [] := by
  refine g_iload_n 0 dX12_commit_86 rfl ?_
  exact g_iret rfl dX12_commit_87 hQ
def f_X12_commit_76  (x1 : Int32) (v : gV) : Int32 × gV := f_X12_commit_86  x1 (vM v 559 7 ((v.1 559 7) + (1 : Int32)))
def p_X12_commit_76  (x1 : Int32) (v : gV) : Prop := p_X12_commit_86   x1 (vM v 559 7 ((v.1 559 7) + (1 : Int32)))
set_option maxHeartbeats 4000000 in
set_option maxRecDepth 100000 in
theorem w_X12_commit_76 {E : gE} {d : Nat} {Q : gO → gS → Prop}   (hd : 1 ≤ d) (x1 : Int32) (v : gV) (hp : p_X12_commit_76   x1 v) (hQ : gqIV Q (f_X12_commit_76  x1 v)) : gG E m_X12_commit d Q 0 0 (rS v) 76 [(0, .ref (gX E + 559)), (1, .int x1)] [] := by
  refine g_aload_n 0 dX12_commit_76 rfl ?_
  refine g_dup dX12_commit_77 rfl ?_
  refine r_get (.int (v.1 559 7)) f_X12_32_X12 rfl (by decide : kd 559 = (0, 9)) (show 559 < 572 by decide) dX12_commit_78 (fun _ => rfl) ?_
  refine g_iconst dX12_commit_81 (1 : Int32) (by decide) ?_
  refine g_iadd dX12_commit_82 ?_
  refine r_put pf_X12_32_X12 rfl (by decide : kd 559 = (0, 9)) (by decide) (by decide) rfl (show 559 < 572 by decide) rfl rfl dX12_commit_83 ?_
  refine g_lv (lv' := [(1, .int x1)]) [1] rfl ?_
  exact w_X12_commit_86  hd    x1 (vM v 559 7 ((v.1 559 7) + (1 : Int32))) hp hQ
def f_X12_commit_56  (x1 : Int32) (v : gV) : Int32 × gV := f_X12_commit_76  x1 (f_X12_copy 561 300 563 2400 (0 : Int32) ((300 : Int32) * (v.1 559 7)) v)
def p_X12_commit_56  (x1 : Int32) (v : gV) : Prop := (p_X12_copy 561 300 563 2400 (0 : Int32) ((300 : Int32) * (v.1 559 7)) v) ∧ (p_X12_commit_76   x1 (f_X12_copy 561 300 563 2400 (0 : Int32) ((300 : Int32) * (v.1 559 7)) v))
set_option maxHeartbeats 4000000 in
set_option maxRecDepth 100000 in
theorem w_X12_commit_56 {E : gE} {d : Nat} {Q : gO → gS → Prop}   (hd : 1 ≤ d) (x1 : Int32) (v : gV) (hp : p_X12_commit_56   x1 v) (hQ : gqIV Q (f_X12_commit_56  x1 v)) : gG E m_X12_commit d Q 0 0 (rS v) 56 [(0, .ref (gX E + 559)), (1, .int x1)] [] := by
  refine g_aload_n 0 dX12_commit_56 rfl ?_
  refine r_get (.ref (gX E + 561)) f_X12_13_X12 rfl (by decide : kd 559 = (0, 9)) (show 559 < 572 by decide) dX12_commit_57 (fun _ => rfl) ?_
  refine g_iconst dX12_commit_60 (0 : Int32) (by decide) ?_
  refine g_aload_n 0 dX12_commit_61 rfl ?_
  refine r_get (.ref (gX E + 563)) f_X12_19_X12 rfl (by decide : kd 559 = (0, 9)) (show 559 < 572 by decide) dX12_commit_62 (fun _ => rfl) ?_
  refine g_sipush dX12_commit_65 (300 : Int32) (by decide) ?_
  refine g_aload_n 0 dX12_commit_68 rfl ?_
  refine r_get (.int (v.1 559 7)) f_X12_32_X12 rfl (by decide : kd 559 = (0, 9)) (show 559 < 572 by decide) dX12_commit_69 (fun _ => rfl) ?_
  refine g_imul dX12_commit_72 ?_
  obtain ⟨h2, hp⟩ := hp
  refine g_callS (rest := []) s_X12_75 rfl (c_X12_copy (E := E) (d := d - 1) 561 300 563 2400 (by decide) (by decide : kd 561 = (1, 300)) (show 561 < 572 by decide) (by decide) (by decide : kd 563 = (1, 2400)) (show 563 < 572 by decide) (by omega) (0 : Int32) ((300 : Int32) * (v.1 559 7)) v h2) rfl rfl (Nat.le_of_ble_eq_true rfl) (by omega) (by decide) (by decide) dX12_commit_73 (adN ?_) axN
  exact w_X12_commit_76  hd    x1 (f_X12_copy 561 300 563 2400 (0 : Int32) ((300 : Int32) * (v.1 559 7)) v) hp hQ
def f_X12_commit_40  (K11 : Int32 → Int32 → gV → Int32 × gV)  (x1 : Int32) (x2 : Int32) (v : gV) : Int32 × gV := K11 x1 (x2 + 1) v
def p_X12_commit_40  (K11 : Int32 → Int32 → gV → Int32 × gV)  (PK11 : Int32 → Int32 → gV → Prop)  (x1 : Int32) (x2 : Int32) (v : gV) : Prop := PK11 x1 (x2 + 1) v
set_option maxHeartbeats 4000000 in
set_option maxRecDepth 100000 in
theorem w_X12_commit_40 {E : gE} {d : Nat} {Q : gO → gS → Prop}   (hd : 1 ≤ d) (K11 : Int32 → Int32 → gV → Int32 × gV)  (PK11 : Int32 → Int32 → gV → Prop)  (hK11 : ∀ (x1 : Int32) (x2 : Int32) (v : gV), PK11 x1 x2 v → gqIV Q (K11 x1 x2 v) → gG E m_X12_commit d Q 0 0 (rS v) 11 [(0, .ref (gX E + 559)), (1, .int x1), (2, .int x2)] [])  (x1 : Int32) (x2 : Int32) (v : gV) (hp : p_X12_commit_40 K11 PK11 x1 x2 v) (hQ : gqIV Q (f_X12_commit_40 K11 x1 x2 v)) : gG E m_X12_commit d Q 0 0 (rS v) 40 [(0, .ref (gX E + 559)), (1, .int x1), (2, .int x2)] [] := by
  refine g_iinc 2 (x2 + 1) [(2, .int (x2 + 1)), (0, .ref (gX E + 559)), (1, .int x1)] dX12_commit_40 rfl rfl (by decide) rfl ?_
  refine g_goto 11 dX12_commit_43 (by decide) ?_
  refine g_lv (lv' := [(0, .ref (gX E + 559)), (1, .int x1), (2, .int (x2 + 1))]) [1, 2, 0] rfl ?_
  exact hK11 x1 (x2 + 1) v hp hQ
def f_X12_commit_11  : Nat → Int32 → Int32 → gV → Int32 × gV
  | 0, _, _, v => (0, v)
  | n + 1, x1, x2, v => if (8 : Int32) ≤ x2 then (f_X12_commit_56  x1 (vM v 559 7 ((v.1 559 7) - (1 : Int32)))) else (f_X12_commit_40 (fun x1 x2 v => f_X12_commit_11  n x1 x2 v) x1 x2 (f_X12_copy 563 2400 563 2400 ((300 : Int32) * x2) ((300 : Int32) * (x2 - (1 : Int32))) v))
def p_X12_commit_11  : Nat → Int32 → Int32 → gV → Prop
  | 0, _, _, _ => False
  | n + 1, x1, x2, v => (((8 : Int32) ≤ x2) → (p_X12_commit_56   x1 (vM v 559 7 ((v.1 559 7) - (1 : Int32))))) ∧ (¬ ((8 : Int32) ≤ x2) → ((p_X12_copy 563 2400 563 2400 ((300 : Int32) * x2) ((300 : Int32) * (x2 - (1 : Int32))) v) ∧ (p_X12_commit_40 (fun x1 x2 v => f_X12_commit_11  n x1 x2 v) (fun x1 x2 v => p_X12_commit_11   n x1 x2 v) x1 x2 (f_X12_copy 563 2400 563 2400 ((300 : Int32) * x2) ((300 : Int32) * (x2 - (1 : Int32))) v))))
set_option maxHeartbeats 4000000 in
set_option maxRecDepth 100000 in
theorem w_X12_commit_11 {E : gE} {d : Nat} {Q : gO → gS → Prop}   (hd : 1 ≤ d) : ∀ (n : Nat) (x1 : Int32) (x2 : Int32) (v : gV), p_X12_commit_11   n x1 x2 v → gqIV Q (f_X12_commit_11  n x1 x2 v) → gG E m_X12_commit d Q 0 0 (rS v) 11 [(0, .ref (gX E + 559)), (1, .int x1), (2, .int x2)] [] := by
  intro n
  induction n with
  | zero => intro x1 x2 v hp; exact hp.elim
  | succ n ih =>
    intro x1 x2 v hp hQ
    refine g_iload_n 2 dX12_commit_11 rfl ?_
    refine g_bipush dX12_commit_12 (8 : Int32) (by decide) ?_
    refine g_icmp_ge 46 dX12_commit_14 (by decide) (fun h3 => ?_) (fun h3 => ?_)
    · have hQ := qp (P := gqIV Q) h3 hQ
      have hp := hp.1 h3
      refine g_aload_n 0 dX12_commit_46 rfl ?_
      refine g_dup dX12_commit_47 rfl ?_
      refine r_get (.int (v.1 559 7)) f_X12_32_X12 rfl (by decide : kd 559 = (0, 9)) (show 559 < 572 by decide) dX12_commit_48 (fun _ => rfl) ?_
      refine g_iconst dX12_commit_51 (1 : Int32) (by decide) ?_
      refine g_isub dX12_commit_52 ?_
      refine r_put pf_X12_32_X12 rfl (by decide : kd 559 = (0, 9)) (by decide) (by decide) rfl (show 559 < 572 by decide) rfl rfl dX12_commit_53 ?_
      refine g_lv (lv' := [(0, .ref (gX E + 559)), (1, .int x1)]) [0, 1] rfl ?_
      exact w_X12_commit_56  hd    x1 (vM v 559 7 ((v.1 559 7) - (1 : Int32))) hp hQ
    · have hQ := qn (P := gqIV Q) h3 hQ
      have hp := hp.2 h3
      refine g_aload_n 0 dX12_commit_17 rfl ?_
      refine r_get (.ref (gX E + 563)) f_X12_19_X12 rfl (by decide : kd 559 = (0, 9)) (show 559 < 572 by decide) dX12_commit_18 (fun _ => rfl) ?_
      refine g_sipush dX12_commit_21 (300 : Int32) (by decide) ?_
      refine g_iload_n 2 dX12_commit_24 rfl ?_
      refine g_imul dX12_commit_25 ?_
      refine g_aload_n 0 dX12_commit_26 rfl ?_
      refine r_get (.ref (gX E + 563)) f_X12_19_X12 rfl (by decide : kd 559 = (0, 9)) (show 559 < 572 by decide) dX12_commit_27 (fun _ => rfl) ?_
      refine g_sipush dX12_commit_30 (300 : Int32) (by decide) ?_
      refine g_iload_n 2 dX12_commit_33 rfl ?_
      refine g_iconst dX12_commit_34 (1 : Int32) (by decide) ?_
      refine g_isub dX12_commit_35 ?_
      refine g_imul dX12_commit_36 ?_
      obtain ⟨h4, hp⟩ := hp
      refine g_callS (rest := []) s_X12_75 rfl (c_X12_copy (E := E) (d := d - 1) 563 2400 563 2400 (by decide) (by decide : kd 563 = (1, 2400)) (show 563 < 572 by decide) (by decide) (by decide : kd 563 = (1, 2400)) (show 563 < 572 by decide) (by omega) ((300 : Int32) * x2) ((300 : Int32) * (x2 - (1 : Int32))) v h4) rfl rfl (Nat.le_of_ble_eq_true rfl) (by omega) (by decide) (by decide) dX12_commit_37 (adN ?_) axN
      exact w_X12_commit_40  hd (fun x1 x2 v => f_X12_commit_11  n x1 x2 v) (fun x1 x2 v => p_X12_commit_11   n x1 x2 v) ih x1 x2 (f_X12_copy 563 2400 563 2400 ((300 : Int32) * x2) ((300 : Int32) * (x2 - (1 : Int32))) v) hp hQ
def f_X12_commit_0  (x1 : Int32) (v : gV) : Int32 × gV := if (v.1 559 7) = (8 : Int32) then (f_X12_commit_11  5000 x1 (1 : Int32) v) else (f_X12_commit_56  x1 v)
def p_X12_commit_0  (x1 : Int32) (v : gV) : Prop := (((v.1 559 7) = (8 : Int32)) → (p_X12_commit_11   5000 x1 (1 : Int32) v)) ∧ (¬ ((v.1 559 7) = (8 : Int32)) → (p_X12_commit_56   x1 v))
set_option maxHeartbeats 4000000 in
set_option maxRecDepth 100000 in
theorem w_X12_commit_0 {E : gE} {d : Nat} {Q : gO → gS → Prop}   (hd : 1 ≤ d) (x1 : Int32) (v : gV) (hp : p_X12_commit_0   x1 v) (hQ : gqIV Q (f_X12_commit_0  x1 v)) : gG E m_X12_commit d Q 0 0 (rS v) 0 [(0, .ref (gX E + 559)), (1, .int x1)] [] := by
  refine g_aload_n 0 dX12_commit_0 rfl ?_
  refine r_get (.int (v.1 559 7)) f_X12_32_X12 rfl (by decide : kd 559 = (0, 9)) (show 559 < 572 by decide) dX12_commit_1 (fun _ => rfl) ?_
  refine g_bipush dX12_commit_4 (8 : Int32) (by decide) ?_
  refine g_icmp_ne 56 dX12_commit_6 (by decide) (fun h1 => ?_) (fun h1 => ?_)
  · have hQ := qn (P := gqIV Q) h1 hQ
    have hp := hp.2 h1
    exact w_X12_commit_56  hd    x1 v hp hQ
  · have hQ := qp (P := gqIV Q) h1 hQ
    have hp := hp.1 h1
    refine g_iconst dX12_commit_9 (1 : Int32) (by decide) ?_
    refine g_istore_n [(2, .int ((1 : Int32))), (0, .ref (gX E + 559)), (1, .int x1)] dX12_commit_10 rfl (by decide) rfl ?_
    refine g_lv (lv' := [(0, .ref (gX E + 559)), (1, .int x1), (2, .int ((1 : Int32)))]) [1, 2, 0] rfl ?_
    exact w_X12_commit_11  hd    5000 x1 (1 : Int32) v hp hQ
def f_X12_commit  (x1 : Int32) (v : gV) : Int32 × gV := f_X12_commit_0 x1 v
def p_X12_commit  (x1 : Int32) (v : gV) : Prop := p_X12_commit_0 x1 v
theorem c_X12_commit {E : gE} {d : Nat}   (hd : 1 ≤ d) (x1 : Int32) (v : gV) (hp : p_X12_commit x1 v) : CT E m_X12_commit d 0 0 [.ref (gX E + 559), .int x1] (rS v) (Cq (.inl (some (.int ((f_X12_commit x1 v).1)))) (f_X12_commit x1 v).2) := CT.of ok_X12_commit rfl (Nat.le_of_ble_eq_true rfl) (w_X12_commit_0  hd x1 v hp ⟨rfl, rfl⟩)
def f_X12_p_0  (x1 : Int32) (x2 : Int32) (v : gV) : Int32 := v.1 560 (((8 : Int32) + ((8 : Int32) * x1)) + x2).toNatClampNeg
def p_X12_p_0  (x1 : Int32) (x2 : Int32) (v : gV) : Prop := (vp_in (((8 : Int32) + ((8 : Int32) * x1)) + x2) 300) ∧ (True)
set_option maxHeartbeats 4000000 in
set_option maxRecDepth 100000 in
theorem w_X12_p_0 {E : gE} {d : Nat} {Q : gO → gS → Prop}   (hd : 0 ≤ d) (x1 : Int32) (x2 : Int32) (v : gV) (hp : p_X12_p_0   x1 x2 v) (hQ : gqI Q v (f_X12_p_0  x1 x2 v)) : gG E m_X12_p d Q 0 0 (rS v) 0 [(0, .ref (gX E + 559)), (1, .int x1), (2, .int x2)] [] := by
  refine g_aload_n 0 dX12_p_0 rfl ?_
  refine r_get (.ref (gX E + 560)) f_X12_7_X12 rfl (by decide : kd 559 = (0, 9)) (show 559 < 572 by decide) dX12_p_1 (fun _ => rfl) ?_
  refine g_bipush dX12_p_4 (8 : Int32) (by decide) ?_
  refine g_bipush dX12_p_6 (8 : Int32) (by decide) ?_
  refine g_iload_n 1 dX12_p_8 rfl ?_
  refine g_imul dX12_p_9 ?_
  refine g_iadd dX12_p_10 ?_
  refine g_iload_n 2 dX12_p_11 rfl ?_
  refine g_iadd dX12_p_12 ?_
  obtain ⟨h1, hp⟩ := hp
  refine g_iald (by decide : kd 560 = (1, 300)) (show 560 < 572 by decide) h1 dX12_p_13 ?_
  exact g_iret rfl dX12_p_14 hQ
def f_X12_p  (x1 : Int32) (x2 : Int32) (v : gV) : Int32 := f_X12_p_0 x1 x2 v
def p_X12_p  (x1 : Int32) (x2 : Int32) (v : gV) : Prop := p_X12_p_0 x1 x2 v
theorem c_X12_p {E : gE} {d : Nat}   (hd : 0 ≤ d) (x1 : Int32) (x2 : Int32) (v : gV) (hp : p_X12_p x1 x2 v) : CT E m_X12_p d 0 0 [.ref (gX E + 559), .int x1, .int x2] (rS v) (Cq (.inl (some (.int (f_X12_p x1 x2 v)))) v) := CT.of ok_X12_p rfl (Nat.le_of_ble_eq_true rfl) (w_X12_p_0  hd x1 x2 v hp ⟨rfl, rfl⟩)
def f_X12_policy_2  : Nat → Int32 → Int32 → gV → Int32
  | 0, _, _, v => 0
  | n + 1, x1, x2, v => if (v.1 560 (0 : Int32).toNatClampNeg) ≤ x2 then ((-1 : Int32)) else (if (f_X12_p x2 (0 : Int32) v) = x1 then x2 else (f_X12_policy_2  n x1 (x2 + 1) v))
def p_X12_policy_2  : Nat → Int32 → Int32 → gV → Prop
  | 0, _, _, _ => False
  | n + 1, x1, x2, v => (((v.1 560 (0 : Int32).toNatClampNeg) ≤ x2) → (True)) ∧ (¬ ((v.1 560 (0 : Int32).toNatClampNeg) ≤ x2) → ((p_X12_p x2 (0 : Int32) v) ∧ ((((f_X12_p x2 (0 : Int32) v) = x1) → (True)) ∧ (¬ ((f_X12_p x2 (0 : Int32) v) = x1) → (p_X12_policy_2   n x1 (x2 + 1) v)))))
set_option maxHeartbeats 4000000 in
set_option maxRecDepth 100000 in
theorem w_X12_policy_2 {E : gE} {d : Nat} {Q : gO → gS → Prop}   (hd : 1 ≤ d) : ∀ (n : Nat) (x1 : Int32) (x2 : Int32) (v : gV), p_X12_policy_2   n x1 x2 v → gqI Q v (f_X12_policy_2  n x1 x2 v) → gG E m_X12_policy d Q 0 0 (rS v) 2 [(0, .ref (gX E + 559)), (1, .int x1), (2, .int x2)] [] := by
  intro n
  induction n with
  | zero => intro x1 x2 v hp; exact hp.elim
  | succ n ih =>
    intro x1 x2 v hp hQ
    refine g_iload_n 2 dX12_policy_2 rfl ?_
    refine g_aload_n 0 dX12_policy_3 rfl ?_
    refine r_get (.ref (gX E + 560)) f_X12_7_X12 rfl (by decide : kd 559 = (0, 9)) (show 559 < 572 by decide) dX12_policy_4 (fun _ => rfl) ?_
    refine g_iconst dX12_policy_7 (0 : Int32) (by decide) ?_
    refine g_iald (by decide : kd 560 = (1, 300)) (show 560 < 572 by decide) (show ¬ (_ ∨ _) by decide) dX12_policy_8 ?_
    refine g_icmp_ge 30 dX12_policy_9 (by decide) (fun h1 => ?_) (fun h1 => ?_)
    · have hQ := qp (P := gqI Q v) h1 hQ
      have hp := hp.1 h1
      refine g_iconst dX12_policy_30 (-1 : Int32) (by decide) ?_
      exact g_iret rfl dX12_policy_31 hQ
    · have hQ := qn (P := gqI Q v) h1 hQ
      have hp := hp.2 h1
      refine g_aload_n 0 dX12_policy_12 rfl ?_
      refine g_iload_n 2 dX12_policy_13 rfl ?_
      refine g_iconst dX12_policy_14 (0 : Int32) (by decide) ?_
      obtain ⟨h2, hp⟩ := hp
      refine g_callV (rest := []) s_X12_79_X12 rfl (c_X12_p (E := E) (d := d - 1)   (by omega) x2 (0 : Int32) v h2) (by decide : kd 559 = (0, 9)) (show 559 < 572 by decide) rfl rfl (Nat.le_of_ble_eq_true rfl) (by omega) (by decide) (by decide) dX12_policy_15 (adV ?_) axN
      refine g_iload_n 1 dX12_policy_18 rfl ?_
      refine g_icmp_ne 24 dX12_policy_19 (by decide) (fun h3 => ?_) (fun h3 => ?_)
      · have hQ := qn (P := gqI Q v) h3 hQ
        have hp := hp.2 h3
        refine g_iinc 2 (x2 + 1) [(2, .int (x2 + 1)), (0, .ref (gX E + 559)), (1, .int x1)] dX12_policy_24 rfl rfl (by decide) rfl ?_
        refine g_goto 2 dX12_policy_27 (by decide) ?_
        refine g_lv (lv' := [(0, .ref (gX E + 559)), (1, .int x1), (2, .int (x2 + 1))]) [1, 2, 0] rfl ?_
        exact ih x1 (x2 + 1) v hp hQ
      · have hQ := qp (P := gqI Q v) h3 hQ
        have hp := hp.1 h3
        refine g_iload_n 2 dX12_policy_22 rfl ?_
        exact g_iret rfl dX12_policy_23 hQ
def f_X12_policy_0  (x1 : Int32) (v : gV) : Int32 := f_X12_policy_2  5000 x1 (0 : Int32) v
def p_X12_policy_0  (x1 : Int32) (v : gV) : Prop := p_X12_policy_2   5000 x1 (0 : Int32) v
set_option maxHeartbeats 4000000 in
set_option maxRecDepth 100000 in
theorem w_X12_policy_0 {E : gE} {d : Nat} {Q : gO → gS → Prop}   (hd : 1 ≤ d) (x1 : Int32) (v : gV) (hp : p_X12_policy_0   x1 v) (hQ : gqI Q v (f_X12_policy_0  x1 v)) : gG E m_X12_policy d Q 0 0 (rS v) 0 [(0, .ref (gX E + 559)), (1, .int x1)] [] := by
  refine g_iconst dX12_policy_0 (0 : Int32) (by decide) ?_
  refine g_istore_n [(2, .int ((0 : Int32))), (0, .ref (gX E + 559)), (1, .int x1)] dX12_policy_1 rfl (by decide) rfl ?_
  refine g_lv (lv' := [(0, .ref (gX E + 559)), (1, .int x1), (2, .int ((0 : Int32)))]) [1, 2, 0] rfl ?_
  exact w_X12_policy_2  hd    5000 x1 (0 : Int32) v hp hQ
def f_X12_policy  (x1 : Int32) (v : gV) : Int32 := f_X12_policy_0 x1 v
def p_X12_policy  (x1 : Int32) (v : gV) : Prop := p_X12_policy_0 x1 v
theorem c_X12_policy {E : gE} {d : Nat}   (hd : 1 ≤ d) (x1 : Int32) (v : gV) (hp : p_X12_policy x1 v) : CT E m_X12_policy d 0 0 [.ref (gX E + 559), .int x1] (rS v) (Cq (.inl (some (.int (f_X12_policy x1 v)))) v) := CT.of ok_X12_policy rfl (Nat.le_of_ble_eq_true rfl) (w_X12_policy_0  hd x1 v hp ⟨rfl, rfl⟩)
def f_X12_isActiveAt_21  (s0 : Int32) (v : gV) : Int32 := s0
def p_X12_isActiveAt_21  (s0 : Int32) (v : gV) : Prop := (s0 = 0 ∨ s0 = 1) ∧ (True)
set_option maxHeartbeats 4000000 in
set_option maxRecDepth 100000 in
theorem w_X12_isActiveAt_21 {E : gE} {d : Nat} {Q : gO → gS → Prop}   (hd : 1 ≤ d) (s0 : Int32) (v : gV) (hp : p_X12_isActiveAt_21   s0 v) (hQ : gqI Q v (f_X12_isActiveAt_21  s0 v)) : gG E m_X12_isActiveAt d Q 0 0 (rS v) 21 [] [.int s0] := by
  obtain ⟨h3, hp⟩ := hp
  exact g_zret rfl (nz h3) dX12_isActiveAt_21 hQ
def f_X12_isActiveAt_0  (x1 : Int32) (v : gV) : Int32 := if (f_X12_p x1 (4 : Int32) v) ≤ (v.1 560 (6 : Int32).toNatClampNeg) then (f_X12_isActiveAt_21  (0 : Int32) v) else (f_X12_isActiveAt_21  (1 : Int32) v)
def p_X12_isActiveAt_0  (x1 : Int32) (v : gV) : Prop := (p_X12_p x1 (4 : Int32) v) ∧ ((((f_X12_p x1 (4 : Int32) v) ≤ (v.1 560 (6 : Int32).toNatClampNeg)) → (p_X12_isActiveAt_21   (0 : Int32) v)) ∧ (¬ ((f_X12_p x1 (4 : Int32) v) ≤ (v.1 560 (6 : Int32).toNatClampNeg)) → (p_X12_isActiveAt_21   (1 : Int32) v)))
set_option maxHeartbeats 4000000 in
set_option maxRecDepth 100000 in
theorem w_X12_isActiveAt_0 {E : gE} {d : Nat} {Q : gO → gS → Prop}   (hd : 1 ≤ d) (x1 : Int32) (v : gV) (hp : p_X12_isActiveAt_0   x1 v) (hQ : gqI Q v (f_X12_isActiveAt_0  x1 v)) : gG E m_X12_isActiveAt d Q 0 0 (rS v) 0 [(0, .ref (gX E + 559)), (1, .int x1)] [] := by
  refine g_aload_n 0 dX12_isActiveAt_0 rfl ?_
  refine r_get (.ref (gX E + 560)) f_X12_7_X12 rfl (by decide : kd 559 = (0, 9)) (show 559 < 572 by decide) dX12_isActiveAt_1 (fun _ => rfl) ?_
  refine g_bipush dX12_isActiveAt_4 (6 : Int32) (by decide) ?_
  refine g_iald (by decide : kd 560 = (1, 300)) (show 560 < 572 by decide) (show ¬ (_ ∨ _) by decide) dX12_isActiveAt_6 ?_
  refine g_aload_n 0 dX12_isActiveAt_7 rfl ?_
  refine g_iload_n 1 dX12_isActiveAt_8 rfl ?_
  refine g_iconst dX12_isActiveAt_9 (4 : Int32) (by decide) ?_
  obtain ⟨h1, hp⟩ := hp
  refine g_callV (rest := [.int (v.1 560 (6 : Int32).toNatClampNeg)]) s_X12_79_X12 rfl (c_X12_p (E := E) (d := d - 1)   (by omega) x1 (4 : Int32) v h1) (by decide : kd 559 = (0, 9)) (show 559 < 572 by decide) rfl rfl (Nat.le_of_ble_eq_true rfl) (by omega) (by decide) (by decide) dX12_isActiveAt_10 (adV ?_) axN
  refine g_icmp_ge 20 dX12_isActiveAt_13 (by decide) (fun h2 => ?_) (fun h2 => ?_)
  · have hQ := qp (P := gqI Q v) h2 hQ
    have hp := hp.1 h2
    refine g_iconst dX12_isActiveAt_20 (0 : Int32) (by decide) ?_
    refine g_lv (lv' := []) [] rfl ?_
    exact w_X12_isActiveAt_21  hd    (0 : Int32) v hp hQ
  · have hQ := qn (P := gqI Q v) h2 hQ
    have hp := hp.2 h2
    refine g_iconst dX12_isActiveAt_16 (1 : Int32) (by decide) ?_
    refine g_goto 21 dX12_isActiveAt_17 (by decide) ?_
    refine g_lv (lv' := []) [] rfl ?_
    exact w_X12_isActiveAt_21  hd    (1 : Int32) v hp hQ
def f_X12_isActiveAt  (x1 : Int32) (v : gV) : Int32 := f_X12_isActiveAt_0 x1 v
def p_X12_isActiveAt  (x1 : Int32) (v : gV) : Prop := p_X12_isActiveAt_0 x1 v
theorem c_X12_isActiveAt {E : gE} {d : Nat}   (hd : 1 ≤ d) (x1 : Int32) (v : gV) (hp : p_X12_isActiveAt x1 v) : CT E m_X12_isActiveAt d 0 0 [.ref (gX E + 559), .int x1] (rS v) (Cq (.inl (some (.int (f_X12_isActiveAt x1 v)))) v) := CT.of ok_X12_isActiveAt rfl (Nat.le_of_ble_eq_true rfl) (w_X12_isActiveAt_0  hd x1 v hp ⟨rfl, rfl⟩)
def f_X12_cannotInsure_30   (v : gV) : Int32 := (1 : Int32)
def p_X12_cannotInsure_30   (v : gV) : Prop := True
set_option maxHeartbeats 4000000 in
set_option maxRecDepth 100000 in
theorem w_X12_cannotInsure_30 {E : gE} {d : Nat} {Q : gO → gS → Prop}   (hd : 1 ≤ d)  (v : gV) (hp : p_X12_cannotInsure_30    v) (hQ : gqI Q v (f_X12_cannotInsure_30   v)) : gG E m_X12_cannotInsure d Q 0 0 (rS v) 30 [] [] := by
  refine g_iconst dX12_cannotInsure_30 (1 : Int32) (by decide) ?_
  exact g_iret rfl dX12_cannotInsure_31 hQ
def f_X12_cannotInsure_48  (s0 : Int32) (v : gV) : Int32 := s0
def p_X12_cannotInsure_48  (s0 : Int32) (v : gV) : Prop := True
set_option maxHeartbeats 4000000 in
set_option maxRecDepth 100000 in
theorem w_X12_cannotInsure_48 {E : gE} {d : Nat} {Q : gO → gS → Prop}   (hd : 1 ≤ d) (s0 : Int32) (v : gV) (hp : p_X12_cannotInsure_48   s0 v) (hQ : gqI Q v (f_X12_cannotInsure_48  s0 v)) : gG E m_X12_cannotInsure d Q 0 0 (rS v) 48 [] [.int s0] := by
  exact g_iret rfl dX12_cannotInsure_48 hQ
def f_X12_cannotInsure_0  (x1 : Int32) (x2 : Int32) (x3 : Int32) (v : gV) : Int32 := if (f_X12_in x1 (1 : Int32) (30 : Int32) v) = 0 then (f_X12_cannotInsure_30   v) else (if (f_X12_in x2 (0 : Int32) (8 : Int32) v) = 0 then (f_X12_cannotInsure_30   v) else (if (f_X12_in x3 (1 : Int32) (60 : Int32) v) = 0 then (f_X12_cannotInsure_30   v) else (if (v.1 560 (0 : Int32).toNatClampNeg) = (8 : Int32) then (f_X12_cannotInsure_48  (2 : Int32) v) else (f_X12_cannotInsure_48  (0 : Int32) v))))
def p_X12_cannotInsure_0  (x1 : Int32) (x2 : Int32) (x3 : Int32) (v : gV) : Prop := (p_X12_in x1 (1 : Int32) (30 : Int32) v) ∧ ((((f_X12_in x1 (1 : Int32) (30 : Int32) v) = 0) → (p_X12_cannotInsure_30    v)) ∧ (¬ ((f_X12_in x1 (1 : Int32) (30 : Int32) v) = 0) → ((p_X12_in x2 (0 : Int32) (8 : Int32) v) ∧ ((((f_X12_in x2 (0 : Int32) (8 : Int32) v) = 0) → (p_X12_cannotInsure_30    v)) ∧ (¬ ((f_X12_in x2 (0 : Int32) (8 : Int32) v) = 0) → ((p_X12_in x3 (1 : Int32) (60 : Int32) v) ∧ ((((f_X12_in x3 (1 : Int32) (60 : Int32) v) = 0) → (p_X12_cannotInsure_30    v)) ∧ (¬ ((f_X12_in x3 (1 : Int32) (60 : Int32) v) = 0) → ((((v.1 560 (0 : Int32).toNatClampNeg) = (8 : Int32)) → (p_X12_cannotInsure_48   (2 : Int32) v)) ∧ (¬ ((v.1 560 (0 : Int32).toNatClampNeg) = (8 : Int32)) → (p_X12_cannotInsure_48   (0 : Int32) v)))))))))))
set_option maxHeartbeats 4000000 in
set_option maxRecDepth 100000 in
theorem w_X12_cannotInsure_0 {E : gE} {d : Nat} {Q : gO → gS → Prop}   (hd : 1 ≤ d) (x1 : Int32) (x2 : Int32) (x3 : Int32) (v : gV) (hp : p_X12_cannotInsure_0   x1 x2 x3 v) (hQ : gqI Q v (f_X12_cannotInsure_0  x1 x2 x3 v)) : gG E m_X12_cannotInsure d Q 0 0 (rS v) 0 [(0, .ref (gX E + 559)), (1, .int x1), (2, .int x2), (3, .int x3)] [] := by
  refine g_iload_n 1 dX12_cannotInsure_0 rfl ?_
  refine g_iconst dX12_cannotInsure_1 (1 : Int32) (by decide) ?_
  refine g_bipush dX12_cannotInsure_2 (30 : Int32) (by decide) ?_
  obtain ⟨h1, hp⟩ := hp
  refine g_callS (rest := []) s_X12_83 rfl (c_X12_in (E := E) (d := d - 1)   (by omega) x1 (1 : Int32) (30 : Int32) v h1) rfl rfl (Nat.le_of_ble_eq_true rfl) (by omega) (by decide) (by decide) dX12_cannotInsure_4 (adV ?_) axN
  refine g_if_eq 30 dX12_cannotInsure_7 (by decide) (fun h2 => ?_) (fun h2 => ?_)
  · have hQ := qp (P := gqI Q v) h2 hQ
    have hp := hp.1 h2
    refine g_lv (lv' := []) [] rfl ?_
    exact w_X12_cannotInsure_30  hd     v hp hQ
  · have hQ := qn (P := gqI Q v) h2 hQ
    have hp := hp.2 h2
    refine g_iload_n 2 dX12_cannotInsure_10 rfl ?_
    refine g_iconst dX12_cannotInsure_11 (0 : Int32) (by decide) ?_
    refine g_bipush dX12_cannotInsure_12 (8 : Int32) (by decide) ?_
    obtain ⟨h3, hp⟩ := hp
    refine g_callS (rest := []) s_X12_83 rfl (c_X12_in (E := E) (d := d - 1)   (by omega) x2 (0 : Int32) (8 : Int32) v h3) rfl rfl (Nat.le_of_ble_eq_true rfl) (by omega) (by decide) (by decide) dX12_cannotInsure_14 (adV ?_) axN
    refine g_if_eq 30 dX12_cannotInsure_17 (by decide) (fun h4 => ?_) (fun h4 => ?_)
    · have hQ := qp (P := gqI Q v) h4 hQ
      have hp := hp.1 h4
      refine g_lv (lv' := []) [] rfl ?_
      exact w_X12_cannotInsure_30  hd     v hp hQ
    · have hQ := qn (P := gqI Q v) h4 hQ
      have hp := hp.2 h4
      refine g_iload_n 3 dX12_cannotInsure_20 rfl ?_
      refine g_iconst dX12_cannotInsure_21 (1 : Int32) (by decide) ?_
      refine g_bipush dX12_cannotInsure_22 (60 : Int32) (by decide) ?_
      obtain ⟨h5, hp⟩ := hp
      refine g_callS (rest := []) s_X12_83 rfl (c_X12_in (E := E) (d := d - 1)   (by omega) x3 (1 : Int32) (60 : Int32) v h5) rfl rfl (Nat.le_of_ble_eq_true rfl) (by omega) (by decide) (by decide) dX12_cannotInsure_24 (adV ?_) axN
      refine g_if_ne 32 dX12_cannotInsure_27 (by decide) (fun h6 => ?_) (fun h6 => ?_)
      · have hQ := qn (P := gqI Q v) h6 hQ
        have hp := hp.2 h6
        refine g_aload_n 0 dX12_cannotInsure_32 rfl ?_
        refine r_get (.ref (gX E + 560)) f_X12_7_X12 rfl (by decide : kd 559 = (0, 9)) (show 559 < 572 by decide) dX12_cannotInsure_33 (fun _ => rfl) ?_
        refine g_iconst dX12_cannotInsure_36 (0 : Int32) (by decide) ?_
        refine g_iald (by decide : kd 560 = (1, 300)) (show 560 < 572 by decide) (show ¬ (_ ∨ _) by decide) dX12_cannotInsure_37 ?_
        refine g_bipush dX12_cannotInsure_38 (8 : Int32) (by decide) ?_
        refine g_icmp_ne 47 dX12_cannotInsure_40 (by decide) (fun h7 => ?_) (fun h7 => ?_)
        · have hQ := qn (P := gqI Q v) h7 hQ
          have hp := hp.2 h7
          refine g_iconst dX12_cannotInsure_47 (0 : Int32) (by decide) ?_
          refine g_lv (lv' := []) [] rfl ?_
          exact w_X12_cannotInsure_48  hd    (0 : Int32) v hp hQ
        · have hQ := qp (P := gqI Q v) h7 hQ
          have hp := hp.1 h7
          refine g_iconst dX12_cannotInsure_43 (2 : Int32) (by decide) ?_
          refine g_goto 48 dX12_cannotInsure_44 (by decide) ?_
          refine g_lv (lv' := []) [] rfl ?_
          exact w_X12_cannotInsure_48  hd    (2 : Int32) v hp hQ
      · have hQ := qp (P := gqI Q v) h6 hQ
        have hp := hp.1 h6
        refine g_lv (lv' := []) [] rfl ?_
        exact w_X12_cannotInsure_30  hd     v hp hQ
def f_X12_cannotInsure  (x1 : Int32) (x2 : Int32) (x3 : Int32) (v : gV) : Int32 := f_X12_cannotInsure_0 x1 x2 x3 v
def p_X12_cannotInsure  (x1 : Int32) (x2 : Int32) (x3 : Int32) (v : gV) : Prop := p_X12_cannotInsure_0 x1 x2 x3 v
theorem c_X12_cannotInsure {E : gE} {d : Nat}   (hd : 1 ≤ d) (x1 : Int32) (x2 : Int32) (x3 : Int32) (v : gV) (hp : p_X12_cannotInsure x1 x2 x3 v) : CT E m_X12_cannotInsure d 0 0 [.ref (gX E + 559), .int x1, .int x2, .int x3] (rS v) (Cq (.inl (some (.int (f_X12_cannotInsure x1 x2 x3 v)))) v) := CT.of ok_X12_cannotInsure rfl (Nat.le_of_ble_eq_true rfl) (w_X12_cannotInsure_0  hd x1 x2 x3 v hp ⟨rfl, rfl⟩)
def f_X12_insures_161   (v : gV) : Int32 × gV := ((v.1 560 (4 : Int32).toNatClampNeg) - (1 : Int32), v)
def p_X12_insures_161   (v : gV) : Prop := True
set_option maxHeartbeats 4000000 in
set_option maxRecDepth 100000 in
theorem w_X12_insures_161 {E : gE} {d : Nat} {Q : gO → gS → Prop}   (hd : 0 ≤ d)  (v : gV) (hp : p_X12_insures_161    v) (hQ : gqIV Q (f_X12_insures_161   v)) : gG E m_X12_insures d Q 0 0 (rS v) 161 [(0, .ref (gX E + 559))] [] := by
  refine g_aload_n 0 dX12_insures_161 rfl ?_
  refine r_get (.ref (gX E + 560)) f_X12_7_X12 rfl (by decide : kd 559 = (0, 9)) (show 559 < 572 by decide) dX12_insures_162 (fun _ => rfl) ?_
  refine g_iconst dX12_insures_165 (4 : Int32) (by decide) ?_
  refine g_iald (by decide : kd 560 = (1, 300)) (show 560 < 572 by decide) (show ¬ (_ ∨ _) by decide) dX12_insures_166 ?_
  refine g_iconst dX12_insures_167 (1 : Int32) (by decide) ?_
  refine g_isub dX12_insures_168 ?_
  exact g_iret rfl dX12_insures_169 hQ
def f_X12_insures_151   (v : gV) : Int32 × gV := f_X12_insures_161   (vM v 560 (4 : Int32).toNatClampNeg ((v.1 560 (4 : Int32).toNatClampNeg) + (1 : Int32)))
def p_X12_insures_151   (v : gV) : Prop := p_X12_insures_161    (vM v 560 (4 : Int32).toNatClampNeg ((v.1 560 (4 : Int32).toNatClampNeg) + (1 : Int32)))
set_option maxHeartbeats 4000000 in
set_option maxRecDepth 100000 in
theorem w_X12_insures_151 {E : gE} {d : Nat} {Q : gO → gS → Prop}   (hd : 0 ≤ d)  (v : gV) (hp : p_X12_insures_151    v) (hQ : gqIV Q (f_X12_insures_151   v)) : gG E m_X12_insures d Q 0 0 (rS v) 151 [(0, .ref (gX E + 559))] [] := by
  refine g_aload_n 0 dX12_insures_151 rfl ?_
  refine r_get (.ref (gX E + 560)) f_X12_7_X12 rfl (by decide : kd 559 = (0, 9)) (show 559 < 572 by decide) dX12_insures_152 (fun _ => rfl) ?_
  refine g_iconst dX12_insures_155 (4 : Int32) (by decide) ?_
  refine g_dup2 dX12_insures_156 rfl rfl ?_
  refine g_iald (by decide : kd 560 = (1, 300)) (show 560 < 572 by decide) (show ¬ (_ ∨ _) by decide) dX12_insures_157 ?_
  refine g_iconst dX12_insures_158 (1 : Int32) (by decide) ?_
  refine g_iadd dX12_insures_159 ?_
  refine r_iast (by decide : kd 560 = (1, 300)) (show 560 < 572 by decide) (show ¬ (_ ∨ _) by decide) dX12_insures_160 ?_
  exact w_X12_insures_161  hd     (vM v 560 (4 : Int32).toNatClampNeg ((v.1 560 (4 : Int32).toNatClampNeg) + (1 : Int32))) hp hQ
def f_X12_insures_141   (v : gV) : Int32 × gV := f_X12_insures_151   (vM v 560 (0 : Int32).toNatClampNeg ((v.1 560 (0 : Int32).toNatClampNeg) + (1 : Int32)))
def p_X12_insures_141   (v : gV) : Prop := p_X12_insures_151    (vM v 560 (0 : Int32).toNatClampNeg ((v.1 560 (0 : Int32).toNatClampNeg) + (1 : Int32)))
set_option maxHeartbeats 4000000 in
set_option maxRecDepth 100000 in
theorem w_X12_insures_141 {E : gE} {d : Nat} {Q : gO → gS → Prop}   (hd : 0 ≤ d)  (v : gV) (hp : p_X12_insures_141    v) (hQ : gqIV Q (f_X12_insures_141   v)) : gG E m_X12_insures d Q 0 0 (rS v) 141 [(0, .ref (gX E + 559))] [] := by
  refine g_aload_n 0 dX12_insures_141 rfl ?_
  refine r_get (.ref (gX E + 560)) f_X12_7_X12 rfl (by decide : kd 559 = (0, 9)) (show 559 < 572 by decide) dX12_insures_142 (fun _ => rfl) ?_
  refine g_iconst dX12_insures_145 (0 : Int32) (by decide) ?_
  refine g_dup2 dX12_insures_146 rfl rfl ?_
  refine g_iald (by decide : kd 560 = (1, 300)) (show 560 < 572 by decide) (show ¬ (_ ∨ _) by decide) dX12_insures_147 ?_
  refine g_iconst dX12_insures_148 (1 : Int32) (by decide) ?_
  refine g_iadd dX12_insures_149 ?_
  refine r_iast (by decide : kd 560 = (1, 300)) (show 560 < 572 by decide) (show ¬ (_ ∨ _) by decide) dX12_insures_150 ?_
  exact w_X12_insures_151  hd     (vM v 560 (0 : Int32).toNatClampNeg ((v.1 560 (0 : Int32).toNatClampNeg) + (1 : Int32))) hp hQ
def f_X12_insures_122  (x4 : Int32) (v : gV) : Int32 × gV := f_X12_insures_141   (vM v 560 (7 : Int32).toNatClampNeg ((v.1 560 (7 : Int32).toNatClampNeg) + (v.1 560 (x4 + (5 : Int32)).toNatClampNeg)))
def p_X12_insures_122  (x4 : Int32) (v : gV) : Prop := (vp_in (x4 + (5 : Int32)) 300) ∧ (p_X12_insures_141    (vM v 560 (7 : Int32).toNatClampNeg ((v.1 560 (7 : Int32).toNatClampNeg) + (v.1 560 (x4 + (5 : Int32)).toNatClampNeg))))
set_option maxHeartbeats 4000000 in
set_option maxRecDepth 100000 in
theorem w_X12_insures_122 {E : gE} {d : Nat} {Q : gO → gS → Prop}   (hd : 0 ≤ d) (x4 : Int32) (v : gV) (hp : p_X12_insures_122   x4 v) (hQ : gqIV Q (f_X12_insures_122  x4 v)) : gG E m_X12_insures d Q 0 0 (rS v) 122 [(0, .ref (gX E + 559)), (4, .int x4)] [] := by
  refine g_aload_n 0 dX12_insures_122 rfl ?_
  refine r_get (.ref (gX E + 560)) f_X12_7_X12 rfl (by decide : kd 559 = (0, 9)) (show 559 < 572 by decide) dX12_insures_123 (fun _ => rfl) ?_
  refine g_bipush dX12_insures_126 (7 : Int32) (by decide) ?_
  refine g_dup2 dX12_insures_128 rfl rfl ?_
  refine g_iald (by decide : kd 560 = (1, 300)) (show 560 < 572 by decide) (show ¬ (_ ∨ _) by decide) dX12_insures_129 ?_
  refine g_aload_n 0 dX12_insures_130 rfl ?_
  refine r_get (.ref (gX E + 560)) f_X12_7_X12 rfl (by decide : kd 559 = (0, 9)) (show 559 < 572 by decide) dX12_insures_131 (fun _ => rfl) ?_
  refine g_iload 1 dX12_insures_134 rfl ?_
  refine g_iconst dX12_insures_136 (5 : Int32) (by decide) ?_
  refine g_iadd dX12_insures_137 ?_
  obtain ⟨h9, hp⟩ := hp
  refine g_iald (by decide : kd 560 = (1, 300)) (show 560 < 572 by decide) h9 dX12_insures_138 ?_
  refine g_iadd dX12_insures_139 ?_
  refine r_iast (by decide : kd 560 = (1, 300)) (show 560 < 572 by decide) (show ¬ (_ ∨ _) by decide) dX12_insures_140 ?_
  refine g_lv (lv' := [(0, .ref (gX E + 559))]) [0] rfl ?_
  exact w_X12_insures_141  hd     (vM v 560 (7 : Int32).toNatClampNeg ((v.1 560 (7 : Int32).toNatClampNeg) + (v.1 560 (x4 + (5 : Int32)).toNatClampNeg))) hp hQ
def f_X12_insures_111  (x4 : Int32) (v : gV) : Int32 × gV := f_X12_insures_122  x4 (vM v 560 (x4 + (6 : Int32)).toNatClampNeg (0 : Int32))
def p_X12_insures_111  (x4 : Int32) (v : gV) : Prop := (vp_in (x4 + (6 : Int32)) 300) ∧ (p_X12_insures_122   x4 (vM v 560 (x4 + (6 : Int32)).toNatClampNeg (0 : Int32)))
set_option maxHeartbeats 4000000 in
set_option maxRecDepth 100000 in
theorem w_X12_insures_111 {E : gE} {d : Nat} {Q : gO → gS → Prop}   (hd : 0 ≤ d) (x4 : Int32) (v : gV) (hp : p_X12_insures_111   x4 v) (hQ : gqIV Q (f_X12_insures_111  x4 v)) : gG E m_X12_insures d Q 0 0 (rS v) 111 [(0, .ref (gX E + 559)), (4, .int x4)] [] := by
  refine g_aload_n 0 dX12_insures_111 rfl ?_
  refine r_get (.ref (gX E + 560)) f_X12_7_X12 rfl (by decide : kd 559 = (0, 9)) (show 559 < 572 by decide) dX12_insures_112 (fun _ => rfl) ?_
  refine g_iload 1 dX12_insures_115 rfl ?_
  refine g_bipush dX12_insures_117 (6 : Int32) (by decide) ?_
  refine g_iadd dX12_insures_119 ?_
  refine g_iconst dX12_insures_120 (0 : Int32) (by decide) ?_
  obtain ⟨h8, hp⟩ := hp
  refine r_iast (by decide : kd 560 = (1, 300)) (show 560 < 572 by decide) h8 dX12_insures_121 ?_
  exact w_X12_insures_122  hd    x4 (vM v 560 (x4 + (6 : Int32)).toNatClampNeg (0 : Int32)) hp hQ
def f_X12_insures_110  (x4 : Int32) (s0 : Int32) (s1 : Int32) (v : gV) : Int32 × gV := f_X12_insures_111  x4 (vM v 560 s1.toNatClampNeg s0)
def p_X12_insures_110  (x4 : Int32) (s0 : Int32) (s1 : Int32) (v : gV) : Prop := (vp_in s1 300) ∧ (p_X12_insures_111   x4 (vM v 560 s1.toNatClampNeg s0))
set_option maxHeartbeats 4000000 in
set_option maxRecDepth 100000 in
theorem w_X12_insures_110 {E : gE} {d : Nat} {Q : gO → gS → Prop}   (hd : 0 ≤ d) (x4 : Int32) (s0 : Int32) (s1 : Int32) (v : gV) (hp : p_X12_insures_110   x4 s0 s1 v) (hQ : gqIV Q (f_X12_insures_110  x4 s0 s1 v)) : gG E m_X12_insures d Q 0 0 (rS v) 110 [(0, .ref (gX E + 559)), (4, .int x4)] [.int s0, .int s1, .ref (gX E + 560)] := by
  obtain ⟨h7, hp⟩ := hp
  refine r_iast (by decide : kd 560 = (1, 300)) (show 560 < 572 by decide) h7 dX12_insures_110 ?_
  exact w_X12_insures_111  hd    x4 (vM v 560 s1.toNatClampNeg s0) hp hQ
def f_X12_insures_90  (x4 : Int32) (x5 : Int32) (v : gV) : Int32 × gV := if (1 : Int32) ≤ x5 then (f_X12_insures_110  x4 x5 (x4 + (5 : Int32)) v) else (f_X12_insures_110  x4 (1 : Int32) (x4 + (5 : Int32)) v)
def p_X12_insures_90  (x4 : Int32) (x5 : Int32) (v : gV) : Prop := (((1 : Int32) ≤ x5) → (p_X12_insures_110   x4 x5 (x4 + (5 : Int32)) v)) ∧ (¬ ((1 : Int32) ≤ x5) → (p_X12_insures_110   x4 (1 : Int32) (x4 + (5 : Int32)) v))
set_option maxHeartbeats 4000000 in
set_option maxRecDepth 100000 in
theorem w_X12_insures_90 {E : gE} {d : Nat} {Q : gO → gS → Prop}   (hd : 0 ≤ d) (x4 : Int32) (x5 : Int32) (v : gV) (hp : p_X12_insures_90   x4 x5 v) (hQ : gqIV Q (f_X12_insures_90  x4 x5 v)) : gG E m_X12_insures d Q 0 0 (rS v) 90 [(0, .ref (gX E + 559)), (4, .int x4), (5, .int x5)] [] := by
  refine g_aload_n 0 dX12_insures_90 rfl ?_
  refine r_get (.ref (gX E + 560)) f_X12_7_X12 rfl (by decide : kd 559 = (0, 9)) (show 559 < 572 by decide) dX12_insures_91 (fun _ => rfl) ?_
  refine g_iload 1 dX12_insures_94 rfl ?_
  refine g_iconst dX12_insures_96 (5 : Int32) (by decide) ?_
  refine g_iadd dX12_insures_97 ?_
  refine g_iload 2 dX12_insures_98 rfl ?_
  refine g_iconst dX12_insures_100 (1 : Int32) (by decide) ?_
  refine g_icmp_ge 108 dX12_insures_101 (by decide) (fun h6 => ?_) (fun h6 => ?_)
  · have hQ := qp (P := gqIV Q) h6 hQ
    have hp := hp.1 h6
    refine g_iload 2 dX12_insures_108 rfl ?_
    refine g_lv (lv' := [(0, .ref (gX E + 559)), (4, .int x4)]) [0, 1] rfl ?_
    exact w_X12_insures_110  hd    x4 x5 (x4 + (5 : Int32)) v hp hQ
  · have hQ := qn (P := gqIV Q) h6 hQ
    have hp := hp.2 h6
    refine g_iconst dX12_insures_104 (1 : Int32) (by decide) ?_
    refine g_goto 110 dX12_insures_105 (by decide) ?_
    refine g_lv (lv' := [(0, .ref (gX E + 559)), (4, .int x4)]) [0, 1] rfl ?_
    exact w_X12_insures_110  hd    x4 (1 : Int32) (x4 + (5 : Int32)) v hp hQ
def f_X12_insures_72  (x3 : Int32) (x4 : Int32) (x5 : Int32) (v : gV) : Int32 × gV := f_X12_insures_90  x4 x5 (vM v 560 (x4 + (4 : Int32)).toNatClampNeg ((v.1 560 (6 : Int32).toNatClampNeg) + x3))
def p_X12_insures_72  (x3 : Int32) (x4 : Int32) (x5 : Int32) (v : gV) : Prop := (vp_in (x4 + (4 : Int32)) 300) ∧ (p_X12_insures_90   x4 x5 (vM v 560 (x4 + (4 : Int32)).toNatClampNeg ((v.1 560 (6 : Int32).toNatClampNeg) + x3)))
set_option maxHeartbeats 4000000 in
set_option maxRecDepth 100000 in
theorem w_X12_insures_72 {E : gE} {d : Nat} {Q : gO → gS → Prop}   (hd : 0 ≤ d) (x3 : Int32) (x4 : Int32) (x5 : Int32) (v : gV) (hp : p_X12_insures_72   x3 x4 x5 v) (hQ : gqIV Q (f_X12_insures_72  x3 x4 x5 v)) : gG E m_X12_insures d Q 0 0 (rS v) 72 [(0, .ref (gX E + 559)), (3, .int x3), (4, .int x4), (5, .int x5)] [] := by
  refine g_aload_n 0 dX12_insures_72 rfl ?_
  refine r_get (.ref (gX E + 560)) f_X12_7_X12 rfl (by decide : kd 559 = (0, 9)) (show 559 < 572 by decide) dX12_insures_73 (fun _ => rfl) ?_
  refine g_iload 2 dX12_insures_76 rfl ?_
  refine g_iconst dX12_insures_78 (4 : Int32) (by decide) ?_
  refine g_iadd dX12_insures_79 ?_
  refine g_aload_n 0 dX12_insures_80 rfl ?_
  refine r_get (.ref (gX E + 560)) f_X12_7_X12 rfl (by decide : kd 559 = (0, 9)) (show 559 < 572 by decide) dX12_insures_81 (fun _ => rfl) ?_
  refine g_bipush dX12_insures_84 (6 : Int32) (by decide) ?_
  refine g_iald (by decide : kd 560 = (1, 300)) (show 560 < 572 by decide) (show ¬ (_ ∨ _) by decide) dX12_insures_86 ?_
  refine g_iload_n 1 dX12_insures_87 rfl ?_
  refine g_iadd dX12_insures_88 ?_
  obtain ⟨h5, hp⟩ := hp
  refine r_iast (by decide : kd 560 = (1, 300)) (show 560 < 572 by decide) h5 dX12_insures_89 ?_
  refine g_lv (lv' := [(0, .ref (gX E + 559)), (4, .int x4), (5, .int x5)]) [0, 2, 3] rfl ?_
  exact w_X12_insures_90  hd    x4 x5 (vM v 560 (x4 + (4 : Int32)).toNatClampNeg ((v.1 560 (6 : Int32).toNatClampNeg) + x3)) hp hQ
def f_X12_insures_62  (x3 : Int32) (x4 : Int32) (x5 : Int32) (v : gV) : Int32 × gV := f_X12_insures_72  x3 x4 x5 (vM v 560 (x4 + (3 : Int32)).toNatClampNeg x3)
def p_X12_insures_62  (x3 : Int32) (x4 : Int32) (x5 : Int32) (v : gV) : Prop := (vp_in (x4 + (3 : Int32)) 300) ∧ (p_X12_insures_72   x3 x4 x5 (vM v 560 (x4 + (3 : Int32)).toNatClampNeg x3))
set_option maxHeartbeats 4000000 in
set_option maxRecDepth 100000 in
theorem w_X12_insures_62 {E : gE} {d : Nat} {Q : gO → gS → Prop}   (hd : 0 ≤ d) (x3 : Int32) (x4 : Int32) (x5 : Int32) (v : gV) (hp : p_X12_insures_62   x3 x4 x5 v) (hQ : gqIV Q (f_X12_insures_62  x3 x4 x5 v)) : gG E m_X12_insures d Q 0 0 (rS v) 62 [(0, .ref (gX E + 559)), (3, .int x3), (4, .int x4), (5, .int x5)] [] := by
  refine g_aload_n 0 dX12_insures_62 rfl ?_
  refine r_get (.ref (gX E + 560)) f_X12_7_X12 rfl (by decide : kd 559 = (0, 9)) (show 559 < 572 by decide) dX12_insures_63 (fun _ => rfl) ?_
  refine g_iload 2 dX12_insures_66 rfl ?_
  refine g_iconst dX12_insures_68 (3 : Int32) (by decide) ?_
  refine g_iadd dX12_insures_69 ?_
  refine g_iload_n 1 dX12_insures_70 rfl ?_
  obtain ⟨h4, hp⟩ := hp
  refine r_iast (by decide : kd 560 = (1, 300)) (show 560 < 572 by decide) h4 dX12_insures_71 ?_
  exact w_X12_insures_72  hd    x3 x4 x5 (vM v 560 (x4 + (3 : Int32)).toNatClampNeg x3) hp hQ
def f_X12_insures_52  (x2 : Int32) (x3 : Int32) (x4 : Int32) (x5 : Int32) (v : gV) : Int32 × gV := f_X12_insures_62  x3 x4 x5 (vM v 560 (x4 + (2 : Int32)).toNatClampNeg x2)
def p_X12_insures_52  (x2 : Int32) (x3 : Int32) (x4 : Int32) (x5 : Int32) (v : gV) : Prop := (vp_in (x4 + (2 : Int32)) 300) ∧ (p_X12_insures_62   x3 x4 x5 (vM v 560 (x4 + (2 : Int32)).toNatClampNeg x2))
set_option maxHeartbeats 4000000 in
set_option maxRecDepth 100000 in
theorem w_X12_insures_52 {E : gE} {d : Nat} {Q : gO → gS → Prop}   (hd : 0 ≤ d) (x2 : Int32) (x3 : Int32) (x4 : Int32) (x5 : Int32) (v : gV) (hp : p_X12_insures_52   x2 x3 x4 x5 v) (hQ : gqIV Q (f_X12_insures_52  x2 x3 x4 x5 v)) : gG E m_X12_insures d Q 0 0 (rS v) 52 [(0, .ref (gX E + 559)), (2, .int x2), (3, .int x3), (4, .int x4), (5, .int x5)] [] := by
  refine g_aload_n 0 dX12_insures_52 rfl ?_
  refine r_get (.ref (gX E + 560)) f_X12_7_X12 rfl (by decide : kd 559 = (0, 9)) (show 559 < 572 by decide) dX12_insures_53 (fun _ => rfl) ?_
  refine g_iload 3 dX12_insures_56 rfl ?_
  refine g_iconst dX12_insures_58 (2 : Int32) (by decide) ?_
  refine g_iadd dX12_insures_59 ?_
  refine g_iload_n 1 dX12_insures_60 rfl ?_
  obtain ⟨h3, hp⟩ := hp
  refine r_iast (by decide : kd 560 = (1, 300)) (show 560 < 572 by decide) h3 dX12_insures_61 ?_
  refine g_lv (lv' := [(0, .ref (gX E + 559)), (3, .int x3), (4, .int x4), (5, .int x5)]) [0, 2, 3, 4] rfl ?_
  exact w_X12_insures_62  hd    x3 x4 x5 (vM v 560 (x4 + (2 : Int32)).toNatClampNeg x2) hp hQ
def f_X12_insures_42  (x1 : Int32) (x2 : Int32) (x3 : Int32) (x4 : Int32) (x5 : Int32) (v : gV) : Int32 × gV := f_X12_insures_52  x2 x3 x4 x5 (vM v 560 (x4 + (1 : Int32)).toNatClampNeg x1)
def p_X12_insures_42  (x1 : Int32) (x2 : Int32) (x3 : Int32) (x4 : Int32) (x5 : Int32) (v : gV) : Prop := (vp_in (x4 + (1 : Int32)) 300) ∧ (p_X12_insures_52   x2 x3 x4 x5 (vM v 560 (x4 + (1 : Int32)).toNatClampNeg x1))
set_option maxHeartbeats 4000000 in
set_option maxRecDepth 100000 in
theorem w_X12_insures_42 {E : gE} {d : Nat} {Q : gO → gS → Prop}   (hd : 0 ≤ d) (x1 : Int32) (x2 : Int32) (x3 : Int32) (x4 : Int32) (x5 : Int32) (v : gV) (hp : p_X12_insures_42   x1 x2 x3 x4 x5 v) (hQ : gqIV Q (f_X12_insures_42  x1 x2 x3 x4 x5 v)) : gG E m_X12_insures d Q 0 0 (rS v) 42 [(0, .ref (gX E + 559)), (1, .int x1), (2, .int x2), (3, .int x3), (4, .int x4), (5, .int x5)] [] := by
  refine g_aload_n 0 dX12_insures_42 rfl ?_
  refine r_get (.ref (gX E + 560)) f_X12_7_X12 rfl (by decide : kd 559 = (0, 9)) (show 559 < 572 by decide) dX12_insures_43 (fun _ => rfl) ?_
  refine g_iload 4 dX12_insures_46 rfl ?_
  refine g_iconst dX12_insures_48 (1 : Int32) (by decide) ?_
  refine g_iadd dX12_insures_49 ?_
  refine g_iload_n 1 dX12_insures_50 rfl ?_
  obtain ⟨h2, hp⟩ := hp
  refine r_iast (by decide : kd 560 = (1, 300)) (show 560 < 572 by decide) h2 dX12_insures_51 ?_
  refine g_lv (lv' := [(0, .ref (gX E + 559)), (2, .int x2), (3, .int x3), (4, .int x4), (5, .int x5)]) [0, 2, 3, 4, 5] rfl ?_
  exact w_X12_insures_52  hd    x2 x3 x4 x5 (vM v 560 (x4 + (1 : Int32)).toNatClampNeg x1) hp hQ
def f_X12_insures_0  (x1 : Int32) (x2 : Int32) (x3 : Int32) (v : gV) : Int32 × gV := f_X12_insures_42  x1 x2 x3 ((8 : Int32) + ((8 : Int32) * (v.1 560 (0 : Int32).toNatClampNeg))) ((((x1 * x2) * x3) + (79 : Int32)) / (80 : Int32)) (vM v 560 (((8 : Int32) + ((8 : Int32) * (v.1 560 (0 : Int32).toNatClampNeg))) + (0 : Int32)).toNatClampNeg (v.1 560 (4 : Int32).toNatClampNeg))
def p_X12_insures_0  (x1 : Int32) (x2 : Int32) (x3 : Int32) (v : gV) : Prop := (vp_in (((8 : Int32) + ((8 : Int32) * (v.1 560 (0 : Int32).toNatClampNeg))) + (0 : Int32)) 300) ∧ (p_X12_insures_42   x1 x2 x3 ((8 : Int32) + ((8 : Int32) * (v.1 560 (0 : Int32).toNatClampNeg))) ((((x1 * x2) * x3) + (79 : Int32)) / (80 : Int32)) (vM v 560 (((8 : Int32) + ((8 : Int32) * (v.1 560 (0 : Int32).toNatClampNeg))) + (0 : Int32)).toNatClampNeg (v.1 560 (4 : Int32).toNatClampNeg)))
set_option maxHeartbeats 4000000 in
set_option maxRecDepth 100000 in
theorem w_X12_insures_0 {E : gE} {d : Nat} {Q : gO → gS → Prop}   (hd : 0 ≤ d) (x1 : Int32) (x2 : Int32) (x3 : Int32) (v : gV) (hp : p_X12_insures_0   x1 x2 x3 v) (hQ : gqIV Q (f_X12_insures_0  x1 x2 x3 v)) : gG E m_X12_insures d Q 0 0 (rS v) 0 [(0, .ref (gX E + 559)), (1, .int x1), (2, .int x2), (3, .int x3)] [] := by
  refine g_bipush dX12_insures_0 (8 : Int32) (by decide) ?_
  refine g_bipush dX12_insures_2 (8 : Int32) (by decide) ?_
  refine g_aload_n 0 dX12_insures_4 rfl ?_
  refine r_get (.ref (gX E + 560)) f_X12_7_X12 rfl (by decide : kd 559 = (0, 9)) (show 559 < 572 by decide) dX12_insures_5 (fun _ => rfl) ?_
  refine g_iconst dX12_insures_8 (0 : Int32) (by decide) ?_
  refine g_iald (by decide : kd 560 = (1, 300)) (show 560 < 572 by decide) (show ¬ (_ ∨ _) by decide) dX12_insures_9 ?_
  refine g_imul dX12_insures_10 ?_
  refine g_iadd dX12_insures_11 ?_
  refine g_istore [(4, .int ((8 : Int32) + ((8 : Int32) * (v.1 560 (0 : Int32).toNatClampNeg)))), (0, .ref (gX E + 559)), (1, .int x1), (2, .int x2), (3, .int x3)] dX12_insures_12 (by decide) rfl ?_
  refine g_iload_n 2 dX12_insures_14 rfl ?_
  refine g_iload_n 3 dX12_insures_15 rfl ?_
  refine g_imul dX12_insures_16 ?_
  refine g_iload_n 4 dX12_insures_17 rfl ?_
  refine g_imul dX12_insures_18 ?_
  refine g_bipush dX12_insures_19 (79 : Int32) (by decide) ?_
  refine g_iadd dX12_insures_21 ?_
  refine g_bipush dX12_insures_22 (80 : Int32) (by decide) ?_
  refine g_idiv dX12_insures_24 (by decide) ?_
  refine g_istore [(5, .int ((((x1 * x2) * x3) + (79 : Int32)) / (80 : Int32))), (4, .int ((8 : Int32) + ((8 : Int32) * (v.1 560 (0 : Int32).toNatClampNeg)))), (0, .ref (gX E + 559)), (1, .int x1), (2, .int x2), (3, .int x3)] dX12_insures_25 (by decide) rfl ?_
  refine g_aload_n 2 dX12_insures_27 rfl ?_
  refine r_get (.ref (gX E + 560)) f_X12_7_X12 rfl (by decide : kd 559 = (0, 9)) (show 559 < 572 by decide) dX12_insures_28 (fun _ => rfl) ?_
  refine g_iload 1 dX12_insures_31 rfl ?_
  refine g_iconst dX12_insures_33 (0 : Int32) (by decide) ?_
  refine g_iadd dX12_insures_34 ?_
  refine g_aload_n 2 dX12_insures_35 rfl ?_
  refine r_get (.ref (gX E + 560)) f_X12_7_X12 rfl (by decide : kd 559 = (0, 9)) (show 559 < 572 by decide) dX12_insures_36 (fun _ => rfl) ?_
  refine g_iconst dX12_insures_39 (4 : Int32) (by decide) ?_
  refine g_iald (by decide : kd 560 = (1, 300)) (show 560 < 572 by decide) (show ¬ (_ ∨ _) by decide) dX12_insures_40 ?_
  obtain ⟨h1, hp⟩ := hp
  refine r_iast (by decide : kd 560 = (1, 300)) (show 560 < 572 by decide) h1 dX12_insures_41 ?_
  refine g_lv (lv' := [(0, .ref (gX E + 559)), (1, .int x1), (2, .int x2), (3, .int x3), (4, .int ((8 : Int32) + ((8 : Int32) * (v.1 560 (0 : Int32).toNatClampNeg)))), (5, .int ((((x1 * x2) * x3) + (79 : Int32)) / (80 : Int32)))]) [2, 3, 4, 5, 1, 0] rfl ?_
  exact w_X12_insures_42  hd    x1 x2 x3 ((8 : Int32) + ((8 : Int32) * (v.1 560 (0 : Int32).toNatClampNeg))) ((((x1 * x2) * x3) + (79 : Int32)) / (80 : Int32)) (vM v 560 (((8 : Int32) + ((8 : Int32) * (v.1 560 (0 : Int32).toNatClampNeg))) + (0 : Int32)).toNatClampNeg (v.1 560 (4 : Int32).toNatClampNeg)) hp hQ
def f_X12_insures  (x1 : Int32) (x2 : Int32) (x3 : Int32) (v : gV) : Int32 × gV := f_X12_insures_0 x1 x2 x3 v
def p_X12_insures  (x1 : Int32) (x2 : Int32) (x3 : Int32) (v : gV) : Prop := p_X12_insures_0 x1 x2 x3 v
theorem c_X12_insures {E : gE} {d : Nat}   (hd : 0 ≤ d) (x1 : Int32) (x2 : Int32) (x3 : Int32) (v : gV) (hp : p_X12_insures x1 x2 x3 v) : CT E m_X12_insures d 0 0 [.ref (gX E + 559), .int x1, .int x2, .int x3] (rS v) (Cq (.inl (some (.int ((f_X12_insures x1 x2 x3 v).1)))) (f_X12_insures x1 x2 x3 v).2) := CT.of ok_X12_insures rfl (Nat.le_of_ble_eq_true rfl) (w_X12_insures_0  hd x1 x2 x3 v hp ⟨rfl, rfl⟩)
def f_X12_insure_38  (s0 : Int32) (v : gV) : Int32 × gV := (s0, v)
def p_X12_insure_38  (s0 : Int32) (v : gV) : Prop := True
set_option maxHeartbeats 4000000 in
set_option maxRecDepth 100000 in
theorem w_X12_insure_38 {E : gE} {d : Nat} {Q : gO → gS → Prop}   (hd : 2 ≤ d) (s0 : Int32) (v : gV) (hp : p_X12_insure_38   s0 v) (hQ : gqIV Q (f_X12_insure_38  s0 v)) : gG E m_X12_insure d Q 0 0 (rS v) 38 [] [.int s0] := by
  exact g_iret rfl dX12_insure_38 hQ
def f_X12_insure_35  (s0 : Int32) (v : gV) : Int32 × gV := f_X12_insure_38  ((f_X12_commit s0 v).1) (f_X12_commit s0 v).2
def p_X12_insure_35  (s0 : Int32) (v : gV) : Prop := (p_X12_commit s0 v) ∧ (p_X12_insure_38   ((f_X12_commit s0 v).1) (f_X12_commit s0 v).2)
set_option maxHeartbeats 4000000 in
set_option maxRecDepth 100000 in
theorem w_X12_insure_35 {E : gE} {d : Nat} {Q : gO → gS → Prop}   (hd : 2 ≤ d) (s0 : Int32) (v : gV) (hp : p_X12_insure_35   s0 v) (hQ : gqIV Q (f_X12_insure_35  s0 v)) : gG E m_X12_insure d Q 0 0 (rS v) 35 [] [.int s0, .ref (gX E + 559)] := by
  obtain ⟨h5, hp⟩ := hp
  refine g_callV (rest := []) s_X12_101_X12 rfl (c_X12_commit (E := E) (d := d - 1)   (by omega) s0 v h5) (by decide : kd 559 = (0, 9)) (show 559 < 572 by decide) rfl rfl (Nat.le_of_ble_eq_true rfl) (by omega) (by decide) (by decide) dX12_insure_35 (adV ?_) axN
  exact w_X12_insure_38  hd    ((f_X12_commit s0 v).1) (f_X12_commit s0 v).2 hp hQ
def f_X12_insure_24  (s0 : Int32) (v : gV) : Int32 × gV := f_X12_insure_38  s0 v
def p_X12_insure_24  (s0 : Int32) (v : gV) : Prop := p_X12_insure_38   s0 v
set_option maxHeartbeats 4000000 in
set_option maxRecDepth 100000 in
theorem w_X12_insure_24 {E : gE} {d : Nat} {Q : gO → gS → Prop}   (hd : 2 ≤ d) (s0 : Int32) (v : gV) (hp : p_X12_insure_24   s0 v) (hQ : gqIV Q (f_X12_insure_24  s0 v)) : gG E m_X12_insure d Q 0 0 (rS v) 24 [] [.int s0] := by
  refine g_goto 38 dX12_insure_24 (by decide) ?_
  exact w_X12_insure_38  hd    s0 v hp hQ
def f_X12_insure_4  (x1 : Int32) (x2 : Int32) (x3 : Int32) (v : gV) : Int32 × gV := if (f_X12_cannotInsure x1 x2 x3 v) ≤ 0 then (f_X12_insure_35  ((f_X12_insures x1 x2 x3 v).1) (f_X12_insures x1 x2 x3 v).2) else (f_X12_insure_24  ((f_X12_fail (f_X12_cannotInsure x1 x2 x3 v) v).1) (f_X12_fail (f_X12_cannotInsure x1 x2 x3 v) v).2)
def p_X12_insure_4  (x1 : Int32) (x2 : Int32) (x3 : Int32) (v : gV) : Prop := (p_X12_cannotInsure x1 x2 x3 v) ∧ ((((f_X12_cannotInsure x1 x2 x3 v) ≤ 0) → ((p_X12_insures x1 x2 x3 v) ∧ (p_X12_insure_35   ((f_X12_insures x1 x2 x3 v).1) (f_X12_insures x1 x2 x3 v).2))) ∧ (¬ ((f_X12_cannotInsure x1 x2 x3 v) ≤ 0) → ((p_X12_fail (f_X12_cannotInsure x1 x2 x3 v) v) ∧ (p_X12_insure_24   ((f_X12_fail (f_X12_cannotInsure x1 x2 x3 v) v).1) (f_X12_fail (f_X12_cannotInsure x1 x2 x3 v) v).2))))
set_option maxHeartbeats 4000000 in
set_option maxRecDepth 100000 in
theorem w_X12_insure_4 {E : gE} {d : Nat} {Q : gO → gS → Prop}   (hd : 2 ≤ d) (x1 : Int32) (x2 : Int32) (x3 : Int32) (v : gV) (hp : p_X12_insure_4   x1 x2 x3 v) (hQ : gqIV Q (f_X12_insure_4  x1 x2 x3 v)) : gG E m_X12_insure d Q 0 0 (rS v) 4 [(0, .ref (gX E + 559)), (1, .int x1), (2, .int x2), (3, .int x3)] [] := by
  refine g_aload_n 0 dX12_insure_4 rfl ?_
  refine g_iload_n 1 dX12_insure_5 rfl ?_
  refine g_iload_n 2 dX12_insure_6 rfl ?_
  refine g_iload_n 3 dX12_insure_7 rfl ?_
  obtain ⟨h2, hp⟩ := hp
  refine g_callV (rest := []) s_X12_90_X12 rfl (c_X12_cannotInsure (E := E) (d := d - 1)   (by omega) x1 x2 x3 v h2) (by decide : kd 559 = (0, 9)) (show 559 < 572 by decide) rfl rfl (Nat.le_of_ble_eq_true rfl) (by omega) (by decide) (by decide) dX12_insure_8 (adV ?_) axN
  refine g_istore [(4, .int ((f_X12_cannotInsure x1 x2 x3 v))), (0, .ref (gX E + 559)), (1, .int x1), (2, .int x2), (3, .int x3)] dX12_insure_11 (by decide) rfl ?_
  refine g_iload 0 dX12_insure_13 rfl ?_
  refine g_if_le 27 dX12_insure_15 (by decide) (fun h3 => ?_) (fun h3 => ?_)
  · have hQ := qp (P := gqIV Q) h3 hQ
    have hp := hp.1 h3
    refine g_aload_n 1 dX12_insure_27 rfl ?_
    refine g_aload_n 1 dX12_insure_28 rfl ?_
    refine g_iload_n 2 dX12_insure_29 rfl ?_
    refine g_iload_n 3 dX12_insure_30 rfl ?_
    refine g_iload_n 4 dX12_insure_31 rfl ?_
    obtain ⟨h4, hp⟩ := hp
    refine g_callV (rest := [.ref (gX E + 559)]) s_X12_98_X12 rfl (c_X12_insures (E := E) (d := d - 1)   (by omega) x1 x2 x3 v h4) (by decide : kd 559 = (0, 9)) (show 559 < 572 by decide) rfl rfl (Nat.le_of_ble_eq_true rfl) (by omega) (by decide) (by decide) dX12_insure_32 (adV ?_) axN
    refine g_lv (lv' := []) [] rfl ?_
    exact w_X12_insure_35  hd    ((f_X12_insures x1 x2 x3 v).1) (f_X12_insures x1 x2 x3 v).2 hp hQ
  · have hQ := qn (P := gqIV Q) h3 hQ
    have hp := hp.2 h3
    refine g_aload_n 1 dX12_insure_18 rfl ?_
    refine g_iload 0 dX12_insure_19 rfl ?_
    obtain ⟨h6, hp⟩ := hp
    refine g_callV (rest := []) s_X12_94_X12 rfl (c_X12_fail (E := E) (d := d - 1)   (by omega) (f_X12_cannotInsure x1 x2 x3 v) v h6) (by decide : kd 559 = (0, 9)) (show 559 < 572 by decide) rfl rfl (Nat.le_of_ble_eq_true rfl) (by omega) (by decide) (by decide) dX12_insure_21 (adV ?_) axN
    refine g_lv (lv' := []) [] rfl ?_
    exact w_X12_insure_24  hd    ((f_X12_fail (f_X12_cannotInsure x1 x2 x3 v) v).1) (f_X12_fail (f_X12_cannotInsure x1 x2 x3 v) v).2 hp hQ
def f_X12_insure_0  (x1 : Int32) (x2 : Int32) (x3 : Int32) (v : gV) : Int32 × gV := f_X12_insure_4  x1 x2 x3 (f_X12_begin  v)
def p_X12_insure_0  (x1 : Int32) (x2 : Int32) (x3 : Int32) (v : gV) : Prop := (p_X12_begin  v) ∧ (p_X12_insure_4   x1 x2 x3 (f_X12_begin  v))
set_option maxHeartbeats 4000000 in
set_option maxRecDepth 100000 in
theorem w_X12_insure_0 {E : gE} {d : Nat} {Q : gO → gS → Prop}   (hd : 2 ≤ d) (x1 : Int32) (x2 : Int32) (x3 : Int32) (v : gV) (hp : p_X12_insure_0   x1 x2 x3 v) (hQ : gqIV Q (f_X12_insure_0  x1 x2 x3 v)) : gG E m_X12_insure d Q 0 0 (rS v) 0 [(0, .ref (gX E + 559)), (1, .int x1), (2, .int x2), (3, .int x3)] [] := by
  refine g_aload_n 0 dX12_insure_0 rfl ?_
  obtain ⟨h1, hp⟩ := hp
  refine g_callV (rest := []) s_X12_87_X12 rfl (c_X12_begin (E := E) (d := d - 1)   (by omega)  v h1) (by decide : kd 559 = (0, 9)) (show 559 < 572 by decide) rfl rfl (Nat.le_of_ble_eq_true rfl) (by omega) (by decide) (by decide) dX12_insure_1 (adN ?_) axN
  exact w_X12_insure_4  hd    x1 x2 x3 (f_X12_begin  v) hp hQ
def f_X12_insure  (x1 : Int32) (x2 : Int32) (x3 : Int32) (v : gV) : Int32 × gV := f_X12_insure_0 x1 x2 x3 v
def p_X12_insure  (x1 : Int32) (x2 : Int32) (x3 : Int32) (v : gV) : Prop := p_X12_insure_0 x1 x2 x3 v
theorem c_X12_insure {E : gE} {d : Nat}   (hd : 2 ≤ d) (x1 : Int32) (x2 : Int32) (x3 : Int32) (v : gV) (hp : p_X12_insure x1 x2 x3 v) : CT E m_X12_insure d 0 0 [.ref (gX E + 559), .int x1, .int x2, .int x3] (rS v) (Cq (.inl (some (.int ((f_X12_insure x1 x2 x3 v).1)))) (f_X12_insure x1 x2 x3 v).2) := CT.of ok_X12_insure rfl (Nat.le_of_ble_eq_true rfl) (w_X12_insure_0  hd x1 x2 x3 v hp ⟨rfl, rfl⟩)
def f_X12_removeRow_64  (K43 : Int32 → Int32 → Int32 → Int32 → gV → gV)  (x1 : Int32) (x2 : Int32) (x4 : Int32) (x5 : Int32) (v : gV) : gV := K43 x1 x2 x4 (x5 + 1) v
def p_X12_removeRow_64  (K43 : Int32 → Int32 → Int32 → Int32 → gV → gV)  (PK43 : Int32 → Int32 → Int32 → Int32 → gV → Prop)  (x1 : Int32) (x2 : Int32) (x4 : Int32) (x5 : Int32) (v : gV) : Prop := PK43 x1 x2 x4 (x5 + 1) v
set_option maxHeartbeats 4000000 in
set_option maxRecDepth 100000 in
theorem w_X12_removeRow_64 {E : gE} {d : Nat} {Q : gO → gS → Prop}   (hd : 0 ≤ d) (K43 : Int32 → Int32 → Int32 → Int32 → gV → gV)  (PK43 : Int32 → Int32 → Int32 → Int32 → gV → Prop)  (hK43 : ∀ (x1 : Int32) (x2 : Int32) (x4 : Int32) (x5 : Int32) (v : gV), PK43 x1 x2 x4 x5 v → gqV Q (K43 x1 x2 x4 x5 v) → gG E m_X12_removeRow d Q 0 0 (rS v) 43 [(0, .ref (gX E + 559)), (1, .int x1), (2, .int x2), (4, .int x4), (5, .int x5)] [])  (x1 : Int32) (x2 : Int32) (x4 : Int32) (x5 : Int32) (v : gV) (hp : p_X12_removeRow_64 K43 PK43 x1 x2 x4 x5 v) (hQ : gqV Q (f_X12_removeRow_64 K43 x1 x2 x4 x5 v)) : gG E m_X12_removeRow d Q 0 0 (rS v) 64 [(0, .ref (gX E + 559)), (1, .int x1), (2, .int x2), (4, .int x4), (5, .int x5)] [] := by
  refine g_iinc 4 (x5 + 1) [(5, .int (x5 + 1)), (0, .ref (gX E + 559)), (1, .int x1), (2, .int x2), (4, .int x4)] dX12_removeRow_64 rfl rfl (by decide) rfl ?_
  refine g_goto 43 dX12_removeRow_67 (by decide) ?_
  refine g_lv (lv' := [(0, .ref (gX E + 559)), (1, .int x1), (2, .int x2), (4, .int x4), (5, .int (x5 + 1))]) [1, 2, 3, 4, 0] rfl ?_
  exact hK43 x1 x2 x4 (x5 + 1) v hp hQ
def f_X12_removeRow_43  : Nat → Int32 → Int32 → Int32 → Int32 → gV → gV
  | 0, _, _, _, _, v => v
  | n + 1, x1, x2, x4, x5, v => if x2 ≤ x5 then v else (f_X12_removeRow_64 (fun x1 x2 x4 x5 v => f_X12_removeRow_43  n x1 x2 x4 x5 v) x1 x2 x4 x5 (vM v 560 ((x1 + (x2 * x4)) + x5).toNatClampNeg (0 : Int32)))
def p_X12_removeRow_43  : Nat → Int32 → Int32 → Int32 → Int32 → gV → Prop
  | 0, _, _, _, _, _ => False
  | n + 1, x1, x2, x4, x5, v => ((x2 ≤ x5) → (True)) ∧ (¬ (x2 ≤ x5) → ((vp_in ((x1 + (x2 * x4)) + x5) 300) ∧ (p_X12_removeRow_64 (fun x1 x2 x4 x5 v => f_X12_removeRow_43  n x1 x2 x4 x5 v) (fun x1 x2 x4 x5 v => p_X12_removeRow_43   n x1 x2 x4 x5 v) x1 x2 x4 x5 (vM v 560 ((x1 + (x2 * x4)) + x5).toNatClampNeg (0 : Int32)))))
set_option maxHeartbeats 4000000 in
set_option maxRecDepth 100000 in
theorem w_X12_removeRow_43 {E : gE} {d : Nat} {Q : gO → gS → Prop}   (hd : 0 ≤ d) : ∀ (n : Nat) (x1 : Int32) (x2 : Int32) (x4 : Int32) (x5 : Int32) (v : gV), p_X12_removeRow_43   n x1 x2 x4 x5 v → gqV Q (f_X12_removeRow_43  n x1 x2 x4 x5 v) → gG E m_X12_removeRow d Q 0 0 (rS v) 43 [(0, .ref (gX E + 559)), (1, .int x1), (2, .int x2), (4, .int x4), (5, .int x5)] [] := by
  intro n
  induction n with
  | zero => intro x1 x2 x4 x5 v hp; exact hp.elim
  | succ n ih =>
    intro x1 x2 x4 x5 v hp hQ
    refine g_iload 4 dX12_removeRow_43 rfl ?_
    refine g_iload_n 2 dX12_removeRow_45 rfl ?_
    refine g_icmp_ge 70 dX12_removeRow_46 (by decide) (fun h2 => ?_) (fun h2 => ?_)
    · have hQ := qp (P := gqV Q) h2 hQ
      have hp := hp.1 h2
      exact g_vret rfl dX12_removeRow_70 hQ
    · have hQ := qn (P := gqV Q) h2 hQ
      have hp := hp.2 h2
      refine g_aload_n 0 dX12_removeRow_49 rfl ?_
      refine r_get (.ref (gX E + 560)) f_X12_7_X12 rfl (by decide : kd 559 = (0, 9)) (show 559 < 572 by decide) dX12_removeRow_50 (fun _ => rfl) ?_
      refine g_iload_n 1 dX12_removeRow_53 rfl ?_
      refine g_iload_n 2 dX12_removeRow_54 rfl ?_
      refine g_iload 3 dX12_removeRow_55 rfl ?_
      refine g_imul dX12_removeRow_57 ?_
      refine g_iadd dX12_removeRow_58 ?_
      refine g_iload 4 dX12_removeRow_59 rfl ?_
      refine g_iadd dX12_removeRow_61 ?_
      refine g_iconst dX12_removeRow_62 (0 : Int32) (by decide) ?_
      obtain ⟨h3, hp⟩ := hp
      refine r_iast (by decide : kd 560 = (1, 300)) (show 560 < 572 by decide) h3 dX12_removeRow_63 ?_
      exact w_X12_removeRow_64  hd (fun x1 x2 x4 x5 v => f_X12_removeRow_43  n x1 x2 x4 x5 v) (fun x1 x2 x4 x5 v => p_X12_removeRow_43   n x1 x2 x4 x5 v) ih x1 x2 x4 x5 (vM v 560 ((x1 + (x2 * x4)) + x5).toNatClampNeg (0 : Int32)) hp hQ
def f_X12_removeRow_34  (K7 : Int32 → Int32 → Int32 → Int32 → gV → gV)  (x1 : Int32) (x2 : Int32) (x4 : Int32) (x5 : Int32) (v : gV) : gV := K7 x1 x2 x4 (x5 + 1) v
def p_X12_removeRow_34  (K7 : Int32 → Int32 → Int32 → Int32 → gV → gV)  (PK7 : Int32 → Int32 → Int32 → Int32 → gV → Prop)  (x1 : Int32) (x2 : Int32) (x4 : Int32) (x5 : Int32) (v : gV) : Prop := PK7 x1 x2 x4 (x5 + 1) v
set_option maxHeartbeats 4000000 in
set_option maxRecDepth 100000 in
theorem w_X12_removeRow_34 {E : gE} {d : Nat} {Q : gO → gS → Prop}   (hd : 0 ≤ d) (K7 : Int32 → Int32 → Int32 → Int32 → gV → gV)  (PK7 : Int32 → Int32 → Int32 → Int32 → gV → Prop)  (hK7 : ∀ (x1 : Int32) (x2 : Int32) (x4 : Int32) (x5 : Int32) (v : gV), PK7 x1 x2 x4 x5 v → gqV Q (K7 x1 x2 x4 x5 v) → gG E m_X12_removeRow d Q 0 0 (rS v) 7 [(0, .ref (gX E + 559)), (1, .int x1), (2, .int x2), (4, .int x4), (5, .int x5)] [])  (x1 : Int32) (x2 : Int32) (x4 : Int32) (x5 : Int32) (v : gV) (hp : p_X12_removeRow_34 K7 PK7 x1 x2 x4 x5 v) (hQ : gqV Q (f_X12_removeRow_34 K7 x1 x2 x4 x5 v)) : gG E m_X12_removeRow d Q 0 0 (rS v) 34 [(0, .ref (gX E + 559)), (1, .int x1), (2, .int x2), (4, .int x4), (5, .int x5)] [] := by
  refine g_iinc 4 (x5 + 1) [(5, .int (x5 + 1)), (0, .ref (gX E + 559)), (1, .int x1), (2, .int x2), (4, .int x4)] dX12_removeRow_34 rfl rfl (by decide) rfl ?_
  refine g_goto 7 dX12_removeRow_37 (by decide) ?_
  refine g_lv (lv' := [(0, .ref (gX E + 559)), (1, .int x1), (2, .int x2), (4, .int x4), (5, .int (x5 + 1))]) [1, 2, 3, 4, 0] rfl ?_
  exact hK7 x1 x2 x4 (x5 + 1) v hp hQ
def f_X12_removeRow_7  : Nat → Int32 → Int32 → Int32 → Int32 → gV → gV
  | 0, _, _, _, _, v => v
  | n + 1, x1, x2, x4, x5, v => if (x1 + (x2 * x4)) ≤ x5 then (f_X12_removeRow_43  5000 x1 x2 x4 (0 : Int32) v) else (f_X12_removeRow_34 (fun x1 x2 x4 x5 v => f_X12_removeRow_7  n x1 x2 x4 x5 v) x1 x2 x4 x5 (vM v 560 x5.toNatClampNeg (v.1 560 (x5 + x2).toNatClampNeg)))
def p_X12_removeRow_7  : Nat → Int32 → Int32 → Int32 → Int32 → gV → Prop
  | 0, _, _, _, _, _ => False
  | n + 1, x1, x2, x4, x5, v => (((x1 + (x2 * x4)) ≤ x5) → (p_X12_removeRow_43   5000 x1 x2 x4 (0 : Int32) v)) ∧ (¬ ((x1 + (x2 * x4)) ≤ x5) → ((vp_in (x5 + x2) 300) ∧ ((vp_in x5 300) ∧ (p_X12_removeRow_34 (fun x1 x2 x4 x5 v => f_X12_removeRow_7  n x1 x2 x4 x5 v) (fun x1 x2 x4 x5 v => p_X12_removeRow_7   n x1 x2 x4 x5 v) x1 x2 x4 x5 (vM v 560 x5.toNatClampNeg (v.1 560 (x5 + x2).toNatClampNeg))))))
set_option maxHeartbeats 4000000 in
set_option maxRecDepth 100000 in
theorem w_X12_removeRow_7 {E : gE} {d : Nat} {Q : gO → gS → Prop}   (hd : 0 ≤ d) : ∀ (n : Nat) (x1 : Int32) (x2 : Int32) (x4 : Int32) (x5 : Int32) (v : gV), p_X12_removeRow_7   n x1 x2 x4 x5 v → gqV Q (f_X12_removeRow_7  n x1 x2 x4 x5 v) → gG E m_X12_removeRow d Q 0 0 (rS v) 7 [(0, .ref (gX E + 559)), (1, .int x1), (2, .int x2), (4, .int x4), (5, .int x5)] [] := by
  intro n
  induction n with
  | zero => intro x1 x2 x4 x5 v hp; exact hp.elim
  | succ n ih =>
    intro x1 x2 x4 x5 v hp hQ
    refine g_iload 4 dX12_removeRow_7 rfl ?_
    refine g_iload_n 1 dX12_removeRow_9 rfl ?_
    refine g_iload_n 2 dX12_removeRow_10 rfl ?_
    refine g_iload 3 dX12_removeRow_11 rfl ?_
    refine g_imul dX12_removeRow_13 ?_
    refine g_iadd dX12_removeRow_14 ?_
    refine g_icmp_ge 40 dX12_removeRow_15 (by decide) (fun h1 => ?_) (fun h1 => ?_)
    · have hQ := qp (P := gqV Q) h1 hQ
      have hp := hp.1 h1
      refine g_iconst dX12_removeRow_40 (0 : Int32) (by decide) ?_
      refine g_istore [(5, .int ((0 : Int32))), (0, .ref (gX E + 559)), (1, .int x1), (2, .int x2), (4, .int x4)] dX12_removeRow_41 (by decide) rfl ?_
      refine g_lv (lv' := [(0, .ref (gX E + 559)), (1, .int x1), (2, .int x2), (4, .int x4), (5, .int ((0 : Int32)))]) [1, 2, 3, 4, 0] rfl ?_
      exact w_X12_removeRow_43  hd    5000 x1 x2 x4 (0 : Int32) v hp hQ
    · have hQ := qn (P := gqV Q) h1 hQ
      have hp := hp.2 h1
      refine g_aload_n 0 dX12_removeRow_18 rfl ?_
      refine r_get (.ref (gX E + 560)) f_X12_7_X12 rfl (by decide : kd 559 = (0, 9)) (show 559 < 572 by decide) dX12_removeRow_19 (fun _ => rfl) ?_
      refine g_iload 4 dX12_removeRow_22 rfl ?_
      refine g_aload_n 0 dX12_removeRow_24 rfl ?_
      refine r_get (.ref (gX E + 560)) f_X12_7_X12 rfl (by decide : kd 559 = (0, 9)) (show 559 < 572 by decide) dX12_removeRow_25 (fun _ => rfl) ?_
      refine g_iload 4 dX12_removeRow_28 rfl ?_
      refine g_iload_n 2 dX12_removeRow_30 rfl ?_
      refine g_iadd dX12_removeRow_31 ?_
      obtain ⟨h4, hp⟩ := hp
      refine g_iald (by decide : kd 560 = (1, 300)) (show 560 < 572 by decide) h4 dX12_removeRow_32 ?_
      obtain ⟨h5, hp⟩ := hp
      refine r_iast (by decide : kd 560 = (1, 300)) (show 560 < 572 by decide) h5 dX12_removeRow_33 ?_
      exact w_X12_removeRow_34  hd (fun x1 x2 x4 x5 v => f_X12_removeRow_7  n x1 x2 x4 x5 v) (fun x1 x2 x4 x5 v => p_X12_removeRow_7   n x1 x2 x4 x5 v) ih x1 x2 x4 x5 (vM v 560 x5.toNatClampNeg (v.1 560 (x5 + x2).toNatClampNeg)) hp hQ
def f_X12_removeRow_0  (x1 : Int32) (x2 : Int32) (x3 : Int32) (x4 : Int32) (v : gV) : gV := f_X12_removeRow_7  5000 x1 x2 x4 (x1 + (x2 * x3)) v
def p_X12_removeRow_0  (x1 : Int32) (x2 : Int32) (x3 : Int32) (x4 : Int32) (v : gV) : Prop := p_X12_removeRow_7   5000 x1 x2 x4 (x1 + (x2 * x3)) v
set_option maxHeartbeats 4000000 in
set_option maxRecDepth 100000 in
theorem w_X12_removeRow_0 {E : gE} {d : Nat} {Q : gO → gS → Prop}   (hd : 0 ≤ d) (x1 : Int32) (x2 : Int32) (x3 : Int32) (x4 : Int32) (v : gV) (hp : p_X12_removeRow_0   x1 x2 x3 x4 v) (hQ : gqV Q (f_X12_removeRow_0  x1 x2 x3 x4 v)) : gG E m_X12_removeRow d Q 0 0 (rS v) 0 [(0, .ref (gX E + 559)), (1, .int x1), (2, .int x2), (3, .int x3), (4, .int x4)] [] := by
  refine g_iload_n 1 dX12_removeRow_0 rfl ?_
  refine g_iload_n 2 dX12_removeRow_1 rfl ?_
  refine g_iload_n 3 dX12_removeRow_2 rfl ?_
  refine g_imul dX12_removeRow_3 ?_
  refine g_iadd dX12_removeRow_4 ?_
  refine g_istore [(5, .int (x1 + (x2 * x3))), (0, .ref (gX E + 559)), (1, .int x1), (2, .int x2), (3, .int x3), (4, .int x4)] dX12_removeRow_5 (by decide) rfl ?_
  refine g_lv (lv' := [(0, .ref (gX E + 559)), (1, .int x1), (2, .int x2), (4, .int x4), (5, .int (x1 + (x2 * x3)))]) [1, 2, 3, 5, 0] rfl ?_
  exact w_X12_removeRow_7  hd    5000 x1 x2 x4 (x1 + (x2 * x3)) v hp hQ
def f_X12_removeRow  (x1 : Int32) (x2 : Int32) (x3 : Int32) (x4 : Int32) (v : gV) : gV := f_X12_removeRow_0 x1 x2 x3 x4 v
def p_X12_removeRow  (x1 : Int32) (x2 : Int32) (x3 : Int32) (x4 : Int32) (v : gV) : Prop := p_X12_removeRow_0 x1 x2 x3 x4 v
theorem c_X12_removeRow {E : gE} {d : Nat}   (hd : 0 ≤ d) (x1 : Int32) (x2 : Int32) (x3 : Int32) (x4 : Int32) (v : gV) (hp : p_X12_removeRow x1 x2 x3 x4 v) : CT E m_X12_removeRow d 0 0 [.ref (gX E + 559), .int x1, .int x2, .int x3, .int x4] (rS v) (Cq (.inl none) (f_X12_removeRow x1 x2 x3 x4 v)) := CT.of ok_X12_removeRow rfl (Nat.le_of_ble_eq_true rfl) (w_X12_removeRow_0  hd x1 x2 x3 x4 v hp ⟨rfl, rfl⟩)
def f_X12_ends_83  (x3 : Int32) (v : gV) : Int32 × gV := (x3, v)
def p_X12_ends_83  (x3 : Int32) (v : gV) : Prop := True
set_option maxHeartbeats 4000000 in
set_option maxRecDepth 100000 in
theorem w_X12_ends_83 {E : gE} {d : Nat} {Q : gO → gS → Prop}   (hd : 2 ≤ d) (x3 : Int32) (v : gV) (hp : p_X12_ends_83   x3 v) (hQ : gqIV Q (f_X12_ends_83  x3 v)) : gG E m_X12_ends d Q 0 0 (rS v) 83 [(3, .int x3)] [] := by
  refine g_iload_n 0 dX12_ends_83 rfl ?_
  exact g_iret rfl dX12_ends_84 hQ
def f_X12_ends_68  (x2 : Int32) (x3 : Int32) (v : gV) : Int32 × gV := f_X12_ends_83  x3 (f_X12_removeRow (8 : Int32) (8 : Int32) x2 (v.1 560 (0 : Int32).toNatClampNeg) v)
def p_X12_ends_68  (x2 : Int32) (x3 : Int32) (v : gV) : Prop := (p_X12_removeRow (8 : Int32) (8 : Int32) x2 (v.1 560 (0 : Int32).toNatClampNeg) v) ∧ (p_X12_ends_83   x3 (f_X12_removeRow (8 : Int32) (8 : Int32) x2 (v.1 560 (0 : Int32).toNatClampNeg) v))
set_option maxHeartbeats 4000000 in
set_option maxRecDepth 100000 in
theorem w_X12_ends_68 {E : gE} {d : Nat} {Q : gO → gS → Prop}   (hd : 2 ≤ d) (x2 : Int32) (x3 : Int32) (v : gV) (hp : p_X12_ends_68   x2 x3 v) (hQ : gqIV Q (f_X12_ends_68  x2 x3 v)) : gG E m_X12_ends d Q 0 0 (rS v) 68 [(0, .ref (gX E + 559)), (2, .int x2), (3, .int x3)] [] := by
  refine g_aload_n 0 dX12_ends_68 rfl ?_
  refine g_bipush dX12_ends_69 (8 : Int32) (by decide) ?_
  refine g_bipush dX12_ends_71 (8 : Int32) (by decide) ?_
  refine g_iload_n 1 dX12_ends_73 rfl ?_
  refine g_aload_n 0 dX12_ends_74 rfl ?_
  refine r_get (.ref (gX E + 560)) f_X12_7_X12 rfl (by decide : kd 559 = (0, 9)) (show 559 < 572 by decide) dX12_ends_75 (fun _ => rfl) ?_
  refine g_iconst dX12_ends_78 (0 : Int32) (by decide) ?_
  refine g_iald (by decide : kd 560 = (1, 300)) (show 560 < 572 by decide) (show ¬ (_ ∨ _) by decide) dX12_ends_79 ?_
  obtain ⟨h4, hp⟩ := hp
  refine g_callV (rest := []) s_X12_117_X12 rfl (c_X12_removeRow (E := E) (d := d - 1)   (by omega) (8 : Int32) (8 : Int32) x2 (v.1 560 (0 : Int32).toNatClampNeg) v h4) (by decide : kd 559 = (0, 9)) (show 559 < 572 by decide) rfl rfl (Nat.le_of_ble_eq_true rfl) (by omega) (by decide) (by decide) dX12_ends_80 (adN ?_) axN
  refine g_lv (lv' := [(3, .int x3)]) [2] rfl ?_
  exact w_X12_ends_83  hd    x3 (f_X12_removeRow (8 : Int32) (8 : Int32) x2 (v.1 560 (0 : Int32).toNatClampNeg) v) hp hQ
def f_X12_ends_58  (x2 : Int32) (x3 : Int32) (v : gV) : Int32 × gV := f_X12_ends_68  x2 x3 (vM v 560 (0 : Int32).toNatClampNeg ((v.1 560 (0 : Int32).toNatClampNeg) - (1 : Int32)))
def p_X12_ends_58  (x2 : Int32) (x3 : Int32) (v : gV) : Prop := p_X12_ends_68   x2 x3 (vM v 560 (0 : Int32).toNatClampNeg ((v.1 560 (0 : Int32).toNatClampNeg) - (1 : Int32)))
set_option maxHeartbeats 4000000 in
set_option maxRecDepth 100000 in
theorem w_X12_ends_58 {E : gE} {d : Nat} {Q : gO → gS → Prop}   (hd : 2 ≤ d) (x2 : Int32) (x3 : Int32) (v : gV) (hp : p_X12_ends_58   x2 x3 v) (hQ : gqIV Q (f_X12_ends_58  x2 x3 v)) : gG E m_X12_ends d Q 0 0 (rS v) 58 [(0, .ref (gX E + 559)), (2, .int x2), (3, .int x3)] [] := by
  refine g_aload_n 0 dX12_ends_58 rfl ?_
  refine r_get (.ref (gX E + 560)) f_X12_7_X12 rfl (by decide : kd 559 = (0, 9)) (show 559 < 572 by decide) dX12_ends_59 (fun _ => rfl) ?_
  refine g_iconst dX12_ends_62 (0 : Int32) (by decide) ?_
  refine g_dup2 dX12_ends_63 rfl rfl ?_
  refine g_iald (by decide : kd 560 = (1, 300)) (show 560 < 572 by decide) (show ¬ (_ ∨ _) by decide) dX12_ends_64 ?_
  refine g_iconst dX12_ends_65 (1 : Int32) (by decide) ?_
  refine g_isub dX12_ends_66 ?_
  refine r_iast (by decide : kd 560 = (1, 300)) (show 560 < 572 by decide) (show ¬ (_ ∨ _) by decide) dX12_ends_67 ?_
  exact w_X12_ends_68  hd    x2 x3 (vM v 560 (0 : Int32).toNatClampNeg ((v.1 560 (0 : Int32).toNatClampNeg) - (1 : Int32))) hp hQ
def f_X12_ends_46  (x2 : Int32) (s0 : Int32) (v : gV) : Int32 × gV := f_X12_ends_58  x2 s0 (vM v 560 (7 : Int32).toNatClampNeg ((v.1 560 (7 : Int32).toNatClampNeg) - s0))
def p_X12_ends_46  (x2 : Int32) (s0 : Int32) (v : gV) : Prop := p_X12_ends_58   x2 s0 (vM v 560 (7 : Int32).toNatClampNeg ((v.1 560 (7 : Int32).toNatClampNeg) - s0))
set_option maxHeartbeats 4000000 in
set_option maxRecDepth 100000 in
theorem w_X12_ends_46 {E : gE} {d : Nat} {Q : gO → gS → Prop}   (hd : 2 ≤ d) (x2 : Int32) (s0 : Int32) (v : gV) (hp : p_X12_ends_46   x2 s0 v) (hQ : gqIV Q (f_X12_ends_46  x2 s0 v)) : gG E m_X12_ends d Q 0 0 (rS v) 46 [(0, .ref (gX E + 559)), (2, .int x2)] [.int s0] := by
  refine g_istore_n [(3, .int s0), (0, .ref (gX E + 559)), (2, .int x2)] dX12_ends_46 rfl (by decide) rfl ?_
  refine g_aload_n 1 dX12_ends_47 rfl ?_
  refine r_get (.ref (gX E + 560)) f_X12_7_X12 rfl (by decide : kd 559 = (0, 9)) (show 559 < 572 by decide) dX12_ends_48 (fun _ => rfl) ?_
  refine g_bipush dX12_ends_51 (7 : Int32) (by decide) ?_
  refine g_dup2 dX12_ends_53 rfl rfl ?_
  refine g_iald (by decide : kd 560 = (1, 300)) (show 560 < 572 by decide) (show ¬ (_ ∨ _) by decide) dX12_ends_54 ?_
  refine g_iload_n 0 dX12_ends_55 rfl ?_
  refine g_isub dX12_ends_56 ?_
  refine r_iast (by decide : kd 560 = (1, 300)) (show 560 < 572 by decide) (show ¬ (_ ∨ _) by decide) dX12_ends_57 ?_
  refine g_lv (lv' := [(0, .ref (gX E + 559)), (2, .int x2), (3, .int s0)]) [1, 2, 0] rfl ?_
  exact w_X12_ends_58  hd    x2 s0 (vM v 560 (7 : Int32).toNatClampNeg ((v.1 560 (7 : Int32).toNatClampNeg) - s0)) hp hQ
def f_X12_ends_0  (x1 : Int32) (v : gV) : Int32 × gV := if (f_X12_isActiveAt (f_X12_policy x1 v) v) = 0 then (f_X12_ends_46  (f_X12_policy x1 v) (0 : Int32) v) else (f_X12_ends_46  (f_X12_policy x1 v) (((f_X12_p (f_X12_policy x1 v) (5 : Int32) v) * ((f_X12_p (f_X12_policy x1 v) (4 : Int32) v) - (v.1 560 (6 : Int32).toNatClampNeg))) / (f_X12_p (f_X12_policy x1 v) (3 : Int32) v)) v)
def p_X12_ends_0  (x1 : Int32) (v : gV) : Prop := (p_X12_policy x1 v) ∧ ((p_X12_isActiveAt (f_X12_policy x1 v) v) ∧ ((((f_X12_isActiveAt (f_X12_policy x1 v) v) = 0) → (p_X12_ends_46   (f_X12_policy x1 v) (0 : Int32) v)) ∧ (¬ ((f_X12_isActiveAt (f_X12_policy x1 v) v) = 0) → ((p_X12_p (f_X12_policy x1 v) (5 : Int32) v) ∧ ((p_X12_p (f_X12_policy x1 v) (4 : Int32) v) ∧ ((p_X12_p (f_X12_policy x1 v) (3 : Int32) v) ∧ ((¬ (f_X12_p (f_X12_policy x1 v) (3 : Int32) v) = 0) ∧ (p_X12_ends_46   (f_X12_policy x1 v) (((f_X12_p (f_X12_policy x1 v) (5 : Int32) v) * ((f_X12_p (f_X12_policy x1 v) (4 : Int32) v) - (v.1 560 (6 : Int32).toNatClampNeg))) / (f_X12_p (f_X12_policy x1 v) (3 : Int32) v)) v))))))))
set_option maxHeartbeats 4000000 in
set_option maxRecDepth 100000 in
theorem w_X12_ends_0 {E : gE} {d : Nat} {Q : gO → gS → Prop}   (hd : 2 ≤ d) (x1 : Int32) (v : gV) (hp : p_X12_ends_0   x1 v) (hQ : gqIV Q (f_X12_ends_0  x1 v)) : gG E m_X12_ends d Q 0 0 (rS v) 0 [(0, .ref (gX E + 559)), (1, .int x1)] [] := by
  refine g_aload_n 0 dX12_ends_0 rfl ?_
  refine g_iload_n 1 dX12_ends_1 rfl ?_
  obtain ⟨h1, hp⟩ := hp
  refine g_callV (rest := []) s_X12_107_X12 rfl (c_X12_policy (E := E) (d := d - 1)   (by omega) x1 v h1) (by decide : kd 559 = (0, 9)) (show 559 < 572 by decide) rfl rfl (Nat.le_of_ble_eq_true rfl) (by omega) (by decide) (by decide) dX12_ends_2 (adV ?_) axN
  refine g_istore_n [(2, .int ((f_X12_policy x1 v))), (0, .ref (gX E + 559)), (1, .int x1)] dX12_ends_5 rfl (by decide) rfl ?_
  refine g_aload_n 1 dX12_ends_6 rfl ?_
  refine g_iload_n 0 dX12_ends_7 rfl ?_
  obtain ⟨h2, hp⟩ := hp
  refine g_callV (rest := []) s_X12_114_X12 rfl (c_X12_isActiveAt (E := E) (d := d - 1)   (by omega) (f_X12_policy x1 v) v h2) (by decide : kd 559 = (0, 9)) (show 559 < 572 by decide) rfl rfl (Nat.le_of_ble_eq_true rfl) (by omega) (by decide) (by decide) dX12_ends_8 (adV ?_) axN
  refine g_if_eq 45 dX12_ends_11 (by decide) (fun h3 => ?_) (fun h3 => ?_)
  · have hQ := qp (P := gqIV Q) h3 hQ
    have hp := hp.1 h3
    refine g_iconst dX12_ends_45 (0 : Int32) (by decide) ?_
    refine g_lv (lv' := [(0, .ref (gX E + 559)), (2, .int ((f_X12_policy x1 v)))]) [1, 0] rfl ?_
    exact w_X12_ends_46  hd    (f_X12_policy x1 v) (0 : Int32) v hp hQ
  · have hQ := qn (P := gqIV Q) h3 hQ
    have hp := hp.2 h3
    refine g_aload_n 1 dX12_ends_14 rfl ?_
    refine g_iload_n 0 dX12_ends_15 rfl ?_
    refine g_iconst dX12_ends_16 (5 : Int32) (by decide) ?_
    obtain ⟨h5, hp⟩ := hp
    refine g_callV (rest := []) s_X12_79_X12 rfl (c_X12_p (E := E) (d := d - 1)   (by omega) (f_X12_policy x1 v) (5 : Int32) v h5) (by decide : kd 559 = (0, 9)) (show 559 < 572 by decide) rfl rfl (Nat.le_of_ble_eq_true rfl) (by omega) (by decide) (by decide) dX12_ends_17 (adV ?_) axN
    refine g_aload_n 1 dX12_ends_20 rfl ?_
    refine g_iload_n 0 dX12_ends_21 rfl ?_
    refine g_iconst dX12_ends_22 (4 : Int32) (by decide) ?_
    obtain ⟨h6, hp⟩ := hp
    refine g_callV (rest := [.int ((f_X12_p (f_X12_policy x1 v) (5 : Int32) v))]) s_X12_79_X12 rfl (c_X12_p (E := E) (d := d - 1)   (by omega) (f_X12_policy x1 v) (4 : Int32) v h6) (by decide : kd 559 = (0, 9)) (show 559 < 572 by decide) rfl rfl (Nat.le_of_ble_eq_true rfl) (by omega) (by decide) (by decide) dX12_ends_23 (adV ?_) axN
    refine g_aload_n 1 dX12_ends_26 rfl ?_
    refine r_get (.ref (gX E + 560)) f_X12_7_X12 rfl (by decide : kd 559 = (0, 9)) (show 559 < 572 by decide) dX12_ends_27 (fun _ => rfl) ?_
    refine g_bipush dX12_ends_30 (6 : Int32) (by decide) ?_
    refine g_iald (by decide : kd 560 = (1, 300)) (show 560 < 572 by decide) (show ¬ (_ ∨ _) by decide) dX12_ends_32 ?_
    refine g_isub dX12_ends_33 ?_
    refine g_imul dX12_ends_34 ?_
    refine g_aload_n 1 dX12_ends_35 rfl ?_
    refine g_iload_n 0 dX12_ends_36 rfl ?_
    refine g_iconst dX12_ends_37 (3 : Int32) (by decide) ?_
    obtain ⟨h7, hp⟩ := hp
    refine g_callV (rest := [.int ((f_X12_p (f_X12_policy x1 v) (5 : Int32) v) * ((f_X12_p (f_X12_policy x1 v) (4 : Int32) v) - (v.1 560 (6 : Int32).toNatClampNeg)))]) s_X12_79_X12 rfl (c_X12_p (E := E) (d := d - 1)   (by omega) (f_X12_policy x1 v) (3 : Int32) v h7) (by decide : kd 559 = (0, 9)) (show 559 < 572 by decide) rfl rfl (Nat.le_of_ble_eq_true rfl) (by omega) (by decide) (by decide) dX12_ends_38 (adV ?_) axN
    obtain ⟨h8, hp⟩ := hp
    refine g_idiv dX12_ends_41 h8 ?_
    refine g_goto 46 dX12_ends_42 (by decide) ?_
    refine g_lv (lv' := [(0, .ref (gX E + 559)), (2, .int ((f_X12_policy x1 v)))]) [1, 0] rfl ?_
    exact w_X12_ends_46  hd    (f_X12_policy x1 v) (((f_X12_p (f_X12_policy x1 v) (5 : Int32) v) * ((f_X12_p (f_X12_policy x1 v) (4 : Int32) v) - (v.1 560 (6 : Int32).toNatClampNeg))) / (f_X12_p (f_X12_policy x1 v) (3 : Int32) v)) v hp hQ
def f_X12_ends  (x1 : Int32) (v : gV) : Int32 × gV := f_X12_ends_0 x1 v
def p_X12_ends  (x1 : Int32) (v : gV) : Prop := p_X12_ends_0 x1 v
theorem c_X12_ends {E : gE} {d : Nat}   (hd : 2 ≤ d) (x1 : Int32) (v : gV) (hp : p_X12_ends x1 v) : CT E m_X12_ends d 0 0 [.ref (gX E + 559), .int x1] (rS v) (Cq (.inl (some (.int ((f_X12_ends x1 v).1)))) (f_X12_ends x1 v).2) := CT.of ok_X12_ends rfl (Nat.le_of_ble_eq_true rfl) (w_X12_ends_0  hd x1 v hp ⟨rfl, rfl⟩)
def f_X12_t_0  (x1 : Int32) (x2 : Int32) (v : gV) : Int32 := v.1 560 (((216 : Int32) + ((4 : Int32) * x1)) + x2).toNatClampNeg
def p_X12_t_0  (x1 : Int32) (x2 : Int32) (v : gV) : Prop := (vp_in (((216 : Int32) + ((4 : Int32) * x1)) + x2) 300) ∧ (True)
set_option maxHeartbeats 4000000 in
set_option maxRecDepth 100000 in
theorem w_X12_t_0 {E : gE} {d : Nat} {Q : gO → gS → Prop}   (hd : 0 ≤ d) (x1 : Int32) (x2 : Int32) (v : gV) (hp : p_X12_t_0   x1 x2 v) (hQ : gqI Q v (f_X12_t_0  x1 x2 v)) : gG E m_X12_t d Q 0 0 (rS v) 0 [(0, .ref (gX E + 559)), (1, .int x1), (2, .int x2)] [] := by
  refine g_aload_n 0 dX12_t_0 rfl ?_
  refine r_get (.ref (gX E + 560)) f_X12_7_X12 rfl (by decide : kd 559 = (0, 9)) (show 559 < 572 by decide) dX12_t_1 (fun _ => rfl) ?_
  refine g_sipush dX12_t_4 (216 : Int32) (by decide) ?_
  refine g_iconst dX12_t_7 (4 : Int32) (by decide) ?_
  refine g_iload_n 1 dX12_t_8 rfl ?_
  refine g_imul dX12_t_9 ?_
  refine g_iadd dX12_t_10 ?_
  refine g_iload_n 2 dX12_t_11 rfl ?_
  refine g_iadd dX12_t_12 ?_
  obtain ⟨h1, hp⟩ := hp
  refine g_iald (by decide : kd 560 = (1, 300)) (show 560 < 572 by decide) h1 dX12_t_13 ?_
  exact g_iret rfl dX12_t_14 hQ
def f_X12_t  (x1 : Int32) (x2 : Int32) (v : gV) : Int32 := f_X12_t_0 x1 x2 v
def p_X12_t  (x1 : Int32) (x2 : Int32) (v : gV) : Prop := p_X12_t_0 x1 x2 v
theorem c_X12_t {E : gE} {d : Nat}   (hd : 0 ≤ d) (x1 : Int32) (x2 : Int32) (v : gV) (hp : p_X12_t x1 x2 v) : CT E m_X12_t d 0 0 [.ref (gX E + 559), .int x1, .int x2] (rS v) (Cq (.inl (some (.int (f_X12_t x1 x2 v)))) v) := CT.of ok_X12_t rfl (Nat.le_of_ble_eq_true rfl) (w_X12_t_0  hd x1 x2 v hp ⟨rfl, rfl⟩)
def f_X12_isTreaty_0  (x1 : Int32) (v : gV) : Int32 := (f_X12_in x1 (0 : Int32) ((v.1 560 (2 : Int32).toNatClampNeg) - (1 : Int32)) v)
def p_X12_isTreaty_0  (x1 : Int32) (v : gV) : Prop := (p_X12_in x1 (0 : Int32) ((v.1 560 (2 : Int32).toNatClampNeg) - (1 : Int32)) v) ∧ (((f_X12_in x1 (0 : Int32) ((v.1 560 (2 : Int32).toNatClampNeg) - (1 : Int32)) v) = 0 ∨ (f_X12_in x1 (0 : Int32) ((v.1 560 (2 : Int32).toNatClampNeg) - (1 : Int32)) v) = 1) ∧ (True))
set_option maxHeartbeats 4000000 in
set_option maxRecDepth 100000 in
theorem w_X12_isTreaty_0 {E : gE} {d : Nat} {Q : gO → gS → Prop}   (hd : 1 ≤ d) (x1 : Int32) (v : gV) (hp : p_X12_isTreaty_0   x1 v) (hQ : gqI Q v (f_X12_isTreaty_0  x1 v)) : gG E m_X12_isTreaty d Q 0 0 (rS v) 0 [(0, .ref (gX E + 559)), (1, .int x1)] [] := by
  refine g_iload_n 1 dX12_isTreaty_0 rfl ?_
  refine g_iconst dX12_isTreaty_1 (0 : Int32) (by decide) ?_
  refine g_aload_n 0 dX12_isTreaty_2 rfl ?_
  refine r_get (.ref (gX E + 560)) f_X12_7_X12 rfl (by decide : kd 559 = (0, 9)) (show 559 < 572 by decide) dX12_isTreaty_3 (fun _ => rfl) ?_
  refine g_iconst dX12_isTreaty_6 (2 : Int32) (by decide) ?_
  refine g_iald (by decide : kd 560 = (1, 300)) (show 560 < 572 by decide) (show ¬ (_ ∨ _) by decide) dX12_isTreaty_7 ?_
  refine g_iconst dX12_isTreaty_8 (1 : Int32) (by decide) ?_
  refine g_isub dX12_isTreaty_9 ?_
  obtain ⟨h1, hp⟩ := hp
  refine g_callS (rest := []) s_X12_83 rfl (c_X12_in (E := E) (d := d - 1)   (by omega) x1 (0 : Int32) ((v.1 560 (2 : Int32).toNatClampNeg) - (1 : Int32)) v h1) rfl rfl (Nat.le_of_ble_eq_true rfl) (by omega) (by decide) (by decide) dX12_isTreaty_10 (adV ?_) axN
  obtain ⟨h2, hp⟩ := hp
  exact g_zret rfl (nz h2) dX12_isTreaty_13 hQ
def f_X12_isTreaty  (x1 : Int32) (v : gV) : Int32 := f_X12_isTreaty_0 x1 v
def p_X12_isTreaty  (x1 : Int32) (v : gV) : Prop := p_X12_isTreaty_0 x1 v
theorem c_X12_isTreaty {E : gE} {d : Nat}   (hd : 1 ≤ d) (x1 : Int32) (v : gV) (hp : p_X12_isTreaty x1 v) : CT E m_X12_isTreaty d 0 0 [.ref (gX E + 559), .int x1] (rS v) (Cq (.inl (some (.int (f_X12_isTreaty x1 v)))) v) := CT.of ok_X12_isTreaty rfl (Nat.le_of_ble_eq_true rfl) (w_X12_isTreaty_0  hd x1 v hp ⟨rfl, rfl⟩)
def f_X12_cannotTreat_41   (v : gV) : Int32 := (1 : Int32)
def p_X12_cannotTreat_41   (v : gV) : Prop := True
set_option maxHeartbeats 4000000 in
set_option maxRecDepth 100000 in
theorem w_X12_cannotTreat_41 {E : gE} {d : Nat} {Q : gO → gS → Prop}   (hd : 1 ≤ d)  (v : gV) (hp : p_X12_cannotTreat_41    v) (hQ : gqI Q v (f_X12_cannotTreat_41   v)) : gG E m_X12_cannotTreat d Q 0 0 (rS v) 41 [] [] := by
  refine g_iconst dX12_cannotTreat_41 (1 : Int32) (by decide) ?_
  exact g_iret rfl dX12_cannotTreat_42 hQ
def f_X12_cannotTreat_58  (s0 : Int32) (v : gV) : Int32 := s0
def p_X12_cannotTreat_58  (s0 : Int32) (v : gV) : Prop := True
set_option maxHeartbeats 4000000 in
set_option maxRecDepth 100000 in
theorem w_X12_cannotTreat_58 {E : gE} {d : Nat} {Q : gO → gS → Prop}   (hd : 1 ≤ d) (s0 : Int32) (v : gV) (hp : p_X12_cannotTreat_58   s0 v) (hQ : gqI Q v (f_X12_cannotTreat_58  s0 v)) : gG E m_X12_cannotTreat d Q 0 0 (rS v) 58 [] [.int s0] := by
  exact g_iret rfl dX12_cannotTreat_58 hQ
def f_X12_cannotTreat_0  (x1 : Int32) (x2 : Int32) (x3 : Int32) (x4 : Int32) (v : gV) : Int32 := if (f_X12_in x1 (0 : Int32) (29 : Int32) v) = 0 then (f_X12_cannotTreat_41   v) else (if (f_X12_in x2 (1 : Int32) (30 : Int32) v) = 0 then (f_X12_cannotTreat_41   v) else (if (f_X12_in x3 (1 : Int32) (99 : Int32) v) = 0 then (f_X12_cannotTreat_41   v) else (if (f_X12_in x4 (0 : Int32) (99 : Int32) v) = 0 then (f_X12_cannotTreat_41   v) else (if (v.1 560 (2 : Int32).toNatClampNeg) = (4 : Int32) then (f_X12_cannotTreat_58  (2 : Int32) v) else (f_X12_cannotTreat_58  (0 : Int32) v)))))
def p_X12_cannotTreat_0  (x1 : Int32) (x2 : Int32) (x3 : Int32) (x4 : Int32) (v : gV) : Prop := (p_X12_in x1 (0 : Int32) (29 : Int32) v) ∧ ((((f_X12_in x1 (0 : Int32) (29 : Int32) v) = 0) → (p_X12_cannotTreat_41    v)) ∧ (¬ ((f_X12_in x1 (0 : Int32) (29 : Int32) v) = 0) → ((p_X12_in x2 (1 : Int32) (30 : Int32) v) ∧ ((((f_X12_in x2 (1 : Int32) (30 : Int32) v) = 0) → (p_X12_cannotTreat_41    v)) ∧ (¬ ((f_X12_in x2 (1 : Int32) (30 : Int32) v) = 0) → ((p_X12_in x3 (1 : Int32) (99 : Int32) v) ∧ ((((f_X12_in x3 (1 : Int32) (99 : Int32) v) = 0) → (p_X12_cannotTreat_41    v)) ∧ (¬ ((f_X12_in x3 (1 : Int32) (99 : Int32) v) = 0) → ((p_X12_in x4 (0 : Int32) (99 : Int32) v) ∧ ((((f_X12_in x4 (0 : Int32) (99 : Int32) v) = 0) → (p_X12_cannotTreat_41    v)) ∧ (¬ ((f_X12_in x4 (0 : Int32) (99 : Int32) v) = 0) → ((((v.1 560 (2 : Int32).toNatClampNeg) = (4 : Int32)) → (p_X12_cannotTreat_58   (2 : Int32) v)) ∧ (¬ ((v.1 560 (2 : Int32).toNatClampNeg) = (4 : Int32)) → (p_X12_cannotTreat_58   (0 : Int32) v))))))))))))))
set_option maxHeartbeats 4000000 in
set_option maxRecDepth 100000 in
theorem w_X12_cannotTreat_0 {E : gE} {d : Nat} {Q : gO → gS → Prop}   (hd : 1 ≤ d) (x1 : Int32) (x2 : Int32) (x3 : Int32) (x4 : Int32) (v : gV) (hp : p_X12_cannotTreat_0   x1 x2 x3 x4 v) (hQ : gqI Q v (f_X12_cannotTreat_0  x1 x2 x3 x4 v)) : gG E m_X12_cannotTreat d Q 0 0 (rS v) 0 [(0, .ref (gX E + 559)), (1, .int x1), (2, .int x2), (3, .int x3), (4, .int x4)] [] := by
  refine g_iload_n 1 dX12_cannotTreat_0 rfl ?_
  refine g_iconst dX12_cannotTreat_1 (0 : Int32) (by decide) ?_
  refine g_bipush dX12_cannotTreat_2 (29 : Int32) (by decide) ?_
  obtain ⟨h1, hp⟩ := hp
  refine g_callS (rest := []) s_X12_83 rfl (c_X12_in (E := E) (d := d - 1)   (by omega) x1 (0 : Int32) (29 : Int32) v h1) rfl rfl (Nat.le_of_ble_eq_true rfl) (by omega) (by decide) (by decide) dX12_cannotTreat_4 (adV ?_) axN
  refine g_if_eq 41 dX12_cannotTreat_7 (by decide) (fun h2 => ?_) (fun h2 => ?_)
  · have hQ := qp (P := gqI Q v) h2 hQ
    have hp := hp.1 h2
    refine g_lv (lv' := []) [] rfl ?_
    exact w_X12_cannotTreat_41  hd     v hp hQ
  · have hQ := qn (P := gqI Q v) h2 hQ
    have hp := hp.2 h2
    refine g_iload_n 2 dX12_cannotTreat_10 rfl ?_
    refine g_iconst dX12_cannotTreat_11 (1 : Int32) (by decide) ?_
    refine g_bipush dX12_cannotTreat_12 (30 : Int32) (by decide) ?_
    obtain ⟨h3, hp⟩ := hp
    refine g_callS (rest := []) s_X12_83 rfl (c_X12_in (E := E) (d := d - 1)   (by omega) x2 (1 : Int32) (30 : Int32) v h3) rfl rfl (Nat.le_of_ble_eq_true rfl) (by omega) (by decide) (by decide) dX12_cannotTreat_14 (adV ?_) axN
    refine g_if_eq 41 dX12_cannotTreat_17 (by decide) (fun h4 => ?_) (fun h4 => ?_)
    · have hQ := qp (P := gqI Q v) h4 hQ
      have hp := hp.1 h4
      refine g_lv (lv' := []) [] rfl ?_
      exact w_X12_cannotTreat_41  hd     v hp hQ
    · have hQ := qn (P := gqI Q v) h4 hQ
      have hp := hp.2 h4
      refine g_iload_n 3 dX12_cannotTreat_20 rfl ?_
      refine g_iconst dX12_cannotTreat_21 (1 : Int32) (by decide) ?_
      refine g_bipush dX12_cannotTreat_22 (99 : Int32) (by decide) ?_
      obtain ⟨h5, hp⟩ := hp
      refine g_callS (rest := []) s_X12_83 rfl (c_X12_in (E := E) (d := d - 1)   (by omega) x3 (1 : Int32) (99 : Int32) v h5) rfl rfl (Nat.le_of_ble_eq_true rfl) (by omega) (by decide) (by decide) dX12_cannotTreat_24 (adV ?_) axN
      refine g_if_eq 41 dX12_cannotTreat_27 (by decide) (fun h6 => ?_) (fun h6 => ?_)
      · have hQ := qp (P := gqI Q v) h6 hQ
        have hp := hp.1 h6
        refine g_lv (lv' := []) [] rfl ?_
        exact w_X12_cannotTreat_41  hd     v hp hQ
      · have hQ := qn (P := gqI Q v) h6 hQ
        have hp := hp.2 h6
        refine g_iload 4 dX12_cannotTreat_30 rfl ?_
        refine g_iconst dX12_cannotTreat_32 (0 : Int32) (by decide) ?_
        refine g_bipush dX12_cannotTreat_33 (99 : Int32) (by decide) ?_
        obtain ⟨h7, hp⟩ := hp
        refine g_callS (rest := []) s_X12_83 rfl (c_X12_in (E := E) (d := d - 1)   (by omega) x4 (0 : Int32) (99 : Int32) v h7) rfl rfl (Nat.le_of_ble_eq_true rfl) (by omega) (by decide) (by decide) dX12_cannotTreat_35 (adV ?_) axN
        refine g_if_ne 43 dX12_cannotTreat_38 (by decide) (fun h8 => ?_) (fun h8 => ?_)
        · have hQ := qn (P := gqI Q v) h8 hQ
          have hp := hp.2 h8
          refine g_aload_n 0 dX12_cannotTreat_43 rfl ?_
          refine r_get (.ref (gX E + 560)) f_X12_7_X12 rfl (by decide : kd 559 = (0, 9)) (show 559 < 572 by decide) dX12_cannotTreat_44 (fun _ => rfl) ?_
          refine g_iconst dX12_cannotTreat_47 (2 : Int32) (by decide) ?_
          refine g_iald (by decide : kd 560 = (1, 300)) (show 560 < 572 by decide) (show ¬ (_ ∨ _) by decide) dX12_cannotTreat_48 ?_
          refine g_iconst dX12_cannotTreat_49 (4 : Int32) (by decide) ?_
          refine g_icmp_ne 57 dX12_cannotTreat_50 (by decide) (fun h9 => ?_) (fun h9 => ?_)
          · have hQ := qn (P := gqI Q v) h9 hQ
            have hp := hp.2 h9
            refine g_iconst dX12_cannotTreat_57 (0 : Int32) (by decide) ?_
            refine g_lv (lv' := []) [] rfl ?_
            exact w_X12_cannotTreat_58  hd    (0 : Int32) v hp hQ
          · have hQ := qp (P := gqI Q v) h9 hQ
            have hp := hp.1 h9
            refine g_iconst dX12_cannotTreat_53 (2 : Int32) (by decide) ?_
            refine g_goto 58 dX12_cannotTreat_54 (by decide) ?_
            refine g_lv (lv' := []) [] rfl ?_
            exact w_X12_cannotTreat_58  hd    (2 : Int32) v hp hQ
        · have hQ := qp (P := gqI Q v) h8 hQ
          have hp := hp.1 h8
          refine g_lv (lv' := []) [] rfl ?_
          exact w_X12_cannotTreat_41  hd     v hp hQ
def f_X12_cannotTreat  (x1 : Int32) (x2 : Int32) (x3 : Int32) (x4 : Int32) (v : gV) : Int32 := f_X12_cannotTreat_0 x1 x2 x3 x4 v
def p_X12_cannotTreat  (x1 : Int32) (x2 : Int32) (x3 : Int32) (x4 : Int32) (v : gV) : Prop := p_X12_cannotTreat_0 x1 x2 x3 x4 v
theorem c_X12_cannotTreat {E : gE} {d : Nat}   (hd : 1 ≤ d) (x1 : Int32) (x2 : Int32) (x3 : Int32) (x4 : Int32) (v : gV) (hp : p_X12_cannotTreat x1 x2 x3 x4 v) : CT E m_X12_cannotTreat d 0 0 [.ref (gX E + 559), .int x1, .int x2, .int x3, .int x4] (rS v) (Cq (.inl (some (.int (f_X12_cannotTreat x1 x2 x3 x4 v)))) v) := CT.of ok_X12_cannotTreat rfl (Nat.le_of_ble_eq_true rfl) (w_X12_cannotTreat_0  hd x1 x2 x3 x4 v hp ⟨rfl, rfl⟩)
def f_X12_treats_66   (v : gV) : Int32 × gV := ((v.1 560 (2 : Int32).toNatClampNeg) - (1 : Int32), v)
def p_X12_treats_66   (v : gV) : Prop := True
set_option maxHeartbeats 4000000 in
set_option maxRecDepth 100000 in
theorem w_X12_treats_66 {E : gE} {d : Nat} {Q : gO → gS → Prop}   (hd : 0 ≤ d)  (v : gV) (hp : p_X12_treats_66    v) (hQ : gqIV Q (f_X12_treats_66   v)) : gG E m_X12_treats d Q 0 0 (rS v) 66 [(0, .ref (gX E + 559))] [] := by
  refine g_aload_n 0 dX12_treats_66 rfl ?_
  refine r_get (.ref (gX E + 560)) f_X12_7_X12 rfl (by decide : kd 559 = (0, 9)) (show 559 < 572 by decide) dX12_treats_67 (fun _ => rfl) ?_
  refine g_iconst dX12_treats_70 (2 : Int32) (by decide) ?_
  refine g_iald (by decide : kd 560 = (1, 300)) (show 560 < 572 by decide) (show ¬ (_ ∨ _) by decide) dX12_treats_71 ?_
  refine g_iconst dX12_treats_72 (1 : Int32) (by decide) ?_
  refine g_isub dX12_treats_73 ?_
  exact g_iret rfl dX12_treats_74 hQ
def f_X12_treats_56   (v : gV) : Int32 × gV := f_X12_treats_66   (vM v 560 (2 : Int32).toNatClampNeg ((v.1 560 (2 : Int32).toNatClampNeg) + (1 : Int32)))
def p_X12_treats_56   (v : gV) : Prop := p_X12_treats_66    (vM v 560 (2 : Int32).toNatClampNeg ((v.1 560 (2 : Int32).toNatClampNeg) + (1 : Int32)))
set_option maxHeartbeats 4000000 in
set_option maxRecDepth 100000 in
theorem w_X12_treats_56 {E : gE} {d : Nat} {Q : gO → gS → Prop}   (hd : 0 ≤ d)  (v : gV) (hp : p_X12_treats_56    v) (hQ : gqIV Q (f_X12_treats_56   v)) : gG E m_X12_treats d Q 0 0 (rS v) 56 [(0, .ref (gX E + 559))] [] := by
  refine g_aload_n 0 dX12_treats_56 rfl ?_
  refine r_get (.ref (gX E + 560)) f_X12_7_X12 rfl (by decide : kd 559 = (0, 9)) (show 559 < 572 by decide) dX12_treats_57 (fun _ => rfl) ?_
  refine g_iconst dX12_treats_60 (2 : Int32) (by decide) ?_
  refine g_dup2 dX12_treats_61 rfl rfl ?_
  refine g_iald (by decide : kd 560 = (1, 300)) (show 560 < 572 by decide) (show ¬ (_ ∨ _) by decide) dX12_treats_62 ?_
  refine g_iconst dX12_treats_63 (1 : Int32) (by decide) ?_
  refine g_iadd dX12_treats_64 ?_
  refine r_iast (by decide : kd 560 = (1, 300)) (show 560 < 572 by decide) (show ¬ (_ ∨ _) by decide) dX12_treats_65 ?_
  exact w_X12_treats_66  hd     (vM v 560 (2 : Int32).toNatClampNeg ((v.1 560 (2 : Int32).toNatClampNeg) + (1 : Int32))) hp hQ
def f_X12_treats_44  (x4 : Int32) (v : gV) : Int32 × gV := f_X12_treats_56   (vM v 560 (7 : Int32).toNatClampNeg ((v.1 560 (7 : Int32).toNatClampNeg) - x4))
def p_X12_treats_44  (x4 : Int32) (v : gV) : Prop := p_X12_treats_56    (vM v 560 (7 : Int32).toNatClampNeg ((v.1 560 (7 : Int32).toNatClampNeg) - x4))
set_option maxHeartbeats 4000000 in
set_option maxRecDepth 100000 in
theorem w_X12_treats_44 {E : gE} {d : Nat} {Q : gO → gS → Prop}   (hd : 0 ≤ d) (x4 : Int32) (v : gV) (hp : p_X12_treats_44   x4 v) (hQ : gqIV Q (f_X12_treats_44  x4 v)) : gG E m_X12_treats d Q 0 0 (rS v) 44 [(0, .ref (gX E + 559)), (4, .int x4)] [] := by
  refine g_aload_n 0 dX12_treats_44 rfl ?_
  refine r_get (.ref (gX E + 560)) f_X12_7_X12 rfl (by decide : kd 559 = (0, 9)) (show 559 < 572 by decide) dX12_treats_45 (fun _ => rfl) ?_
  refine g_bipush dX12_treats_48 (7 : Int32) (by decide) ?_
  refine g_dup2 dX12_treats_50 rfl rfl ?_
  refine g_iald (by decide : kd 560 = (1, 300)) (show 560 < 572 by decide) (show ¬ (_ ∨ _) by decide) dX12_treats_51 ?_
  refine g_iload 1 dX12_treats_52 rfl ?_
  refine g_isub dX12_treats_54 ?_
  refine r_iast (by decide : kd 560 = (1, 300)) (show 560 < 572 by decide) (show ¬ (_ ∨ _) by decide) dX12_treats_55 ?_
  refine g_lv (lv' := [(0, .ref (gX E + 559))]) [0] rfl ?_
  exact w_X12_treats_56  hd     (vM v 560 (7 : Int32).toNatClampNeg ((v.1 560 (7 : Int32).toNatClampNeg) - x4)) hp hQ
def f_X12_treats_34  (x3 : Int32) (x4 : Int32) (x5 : Int32) (v : gV) : Int32 × gV := f_X12_treats_44  x4 (vM v 560 (x5 + (2 : Int32)).toNatClampNeg x3)
def p_X12_treats_34  (x3 : Int32) (x4 : Int32) (x5 : Int32) (v : gV) : Prop := (vp_in (x5 + (2 : Int32)) 300) ∧ (p_X12_treats_44   x4 (vM v 560 (x5 + (2 : Int32)).toNatClampNeg x3))
set_option maxHeartbeats 4000000 in
set_option maxRecDepth 100000 in
theorem w_X12_treats_34 {E : gE} {d : Nat} {Q : gO → gS → Prop}   (hd : 0 ≤ d) (x3 : Int32) (x4 : Int32) (x5 : Int32) (v : gV) (hp : p_X12_treats_34   x3 x4 x5 v) (hQ : gqIV Q (f_X12_treats_34  x3 x4 x5 v)) : gG E m_X12_treats d Q 0 0 (rS v) 34 [(0, .ref (gX E + 559)), (3, .int x3), (4, .int x4), (5, .int x5)] [] := by
  refine g_aload_n 0 dX12_treats_34 rfl ?_
  refine r_get (.ref (gX E + 560)) f_X12_7_X12 rfl (by decide : kd 559 = (0, 9)) (show 559 < 572 by decide) dX12_treats_35 (fun _ => rfl) ?_
  refine g_iload 3 dX12_treats_38 rfl ?_
  refine g_iconst dX12_treats_40 (2 : Int32) (by decide) ?_
  refine g_iadd dX12_treats_41 ?_
  refine g_iload_n 1 dX12_treats_42 rfl ?_
  obtain ⟨h3, hp⟩ := hp
  refine r_iast (by decide : kd 560 = (1, 300)) (show 560 < 572 by decide) h3 dX12_treats_43 ?_
  refine g_lv (lv' := [(0, .ref (gX E + 559)), (4, .int x4)]) [0, 2] rfl ?_
  exact w_X12_treats_44  hd    x4 (vM v 560 (x5 + (2 : Int32)).toNatClampNeg x3) hp hQ
def f_X12_treats_24  (x2 : Int32) (x3 : Int32) (x4 : Int32) (x5 : Int32) (v : gV) : Int32 × gV := f_X12_treats_34  x3 x4 x5 (vM v 560 (x5 + (1 : Int32)).toNatClampNeg x2)
def p_X12_treats_24  (x2 : Int32) (x3 : Int32) (x4 : Int32) (x5 : Int32) (v : gV) : Prop := (vp_in (x5 + (1 : Int32)) 300) ∧ (p_X12_treats_34   x3 x4 x5 (vM v 560 (x5 + (1 : Int32)).toNatClampNeg x2))
set_option maxHeartbeats 4000000 in
set_option maxRecDepth 100000 in
theorem w_X12_treats_24 {E : gE} {d : Nat} {Q : gO → gS → Prop}   (hd : 0 ≤ d) (x2 : Int32) (x3 : Int32) (x4 : Int32) (x5 : Int32) (v : gV) (hp : p_X12_treats_24   x2 x3 x4 x5 v) (hQ : gqIV Q (f_X12_treats_24  x2 x3 x4 x5 v)) : gG E m_X12_treats d Q 0 0 (rS v) 24 [(0, .ref (gX E + 559)), (2, .int x2), (3, .int x3), (4, .int x4), (5, .int x5)] [] := by
  refine g_aload_n 0 dX12_treats_24 rfl ?_
  refine r_get (.ref (gX E + 560)) f_X12_7_X12 rfl (by decide : kd 559 = (0, 9)) (show 559 < 572 by decide) dX12_treats_25 (fun _ => rfl) ?_
  refine g_iload 4 dX12_treats_28 rfl ?_
  refine g_iconst dX12_treats_30 (1 : Int32) (by decide) ?_
  refine g_iadd dX12_treats_31 ?_
  refine g_iload_n 1 dX12_treats_32 rfl ?_
  obtain ⟨h2, hp⟩ := hp
  refine r_iast (by decide : kd 560 = (1, 300)) (show 560 < 572 by decide) h2 dX12_treats_33 ?_
  refine g_lv (lv' := [(0, .ref (gX E + 559)), (3, .int x3), (4, .int x4), (5, .int x5)]) [0, 2, 3, 4] rfl ?_
  exact w_X12_treats_34  hd    x3 x4 x5 (vM v 560 (x5 + (1 : Int32)).toNatClampNeg x2) hp hQ
def f_X12_treats_0  (x1 : Int32) (x2 : Int32) (x3 : Int32) (x4 : Int32) (v : gV) : Int32 × gV := f_X12_treats_24  x2 x3 x4 ((216 : Int32) + ((4 : Int32) * (v.1 560 (2 : Int32).toNatClampNeg))) (vM v 560 (((216 : Int32) + ((4 : Int32) * (v.1 560 (2 : Int32).toNatClampNeg))) + (0 : Int32)).toNatClampNeg x1)
def p_X12_treats_0  (x1 : Int32) (x2 : Int32) (x3 : Int32) (x4 : Int32) (v : gV) : Prop := (vp_in (((216 : Int32) + ((4 : Int32) * (v.1 560 (2 : Int32).toNatClampNeg))) + (0 : Int32)) 300) ∧ (p_X12_treats_24   x2 x3 x4 ((216 : Int32) + ((4 : Int32) * (v.1 560 (2 : Int32).toNatClampNeg))) (vM v 560 (((216 : Int32) + ((4 : Int32) * (v.1 560 (2 : Int32).toNatClampNeg))) + (0 : Int32)).toNatClampNeg x1))
set_option maxHeartbeats 4000000 in
set_option maxRecDepth 100000 in
theorem w_X12_treats_0 {E : gE} {d : Nat} {Q : gO → gS → Prop}   (hd : 0 ≤ d) (x1 : Int32) (x2 : Int32) (x3 : Int32) (x4 : Int32) (v : gV) (hp : p_X12_treats_0   x1 x2 x3 x4 v) (hQ : gqIV Q (f_X12_treats_0  x1 x2 x3 x4 v)) : gG E m_X12_treats d Q 0 0 (rS v) 0 [(0, .ref (gX E + 559)), (1, .int x1), (2, .int x2), (3, .int x3), (4, .int x4)] [] := by
  refine g_sipush dX12_treats_0 (216 : Int32) (by decide) ?_
  refine g_iconst dX12_treats_3 (4 : Int32) (by decide) ?_
  refine g_aload_n 0 dX12_treats_4 rfl ?_
  refine r_get (.ref (gX E + 560)) f_X12_7_X12 rfl (by decide : kd 559 = (0, 9)) (show 559 < 572 by decide) dX12_treats_5 (fun _ => rfl) ?_
  refine g_iconst dX12_treats_8 (2 : Int32) (by decide) ?_
  refine g_iald (by decide : kd 560 = (1, 300)) (show 560 < 572 by decide) (show ¬ (_ ∨ _) by decide) dX12_treats_9 ?_
  refine g_imul dX12_treats_10 ?_
  refine g_iadd dX12_treats_11 ?_
  refine g_istore [(5, .int ((216 : Int32) + ((4 : Int32) * (v.1 560 (2 : Int32).toNatClampNeg)))), (0, .ref (gX E + 559)), (1, .int x1), (2, .int x2), (3, .int x3), (4, .int x4)] dX12_treats_12 (by decide) rfl ?_
  refine g_aload_n 1 dX12_treats_14 rfl ?_
  refine r_get (.ref (gX E + 560)) f_X12_7_X12 rfl (by decide : kd 559 = (0, 9)) (show 559 < 572 by decide) dX12_treats_15 (fun _ => rfl) ?_
  refine g_iload 0 dX12_treats_18 rfl ?_
  refine g_iconst dX12_treats_20 (0 : Int32) (by decide) ?_
  refine g_iadd dX12_treats_21 ?_
  refine g_iload_n 2 dX12_treats_22 rfl ?_
  obtain ⟨h1, hp⟩ := hp
  refine r_iast (by decide : kd 560 = (1, 300)) (show 560 < 572 by decide) h1 dX12_treats_23 ?_
  refine g_lv (lv' := [(0, .ref (gX E + 559)), (2, .int x2), (3, .int x3), (4, .int x4), (5, .int ((216 : Int32) + ((4 : Int32) * (v.1 560 (2 : Int32).toNatClampNeg))))]) [1, 3, 4, 5, 0] rfl ?_
  exact w_X12_treats_24  hd    x2 x3 x4 ((216 : Int32) + ((4 : Int32) * (v.1 560 (2 : Int32).toNatClampNeg))) (vM v 560 (((216 : Int32) + ((4 : Int32) * (v.1 560 (2 : Int32).toNatClampNeg))) + (0 : Int32)).toNatClampNeg x1) hp hQ
def f_X12_treats  (x1 : Int32) (x2 : Int32) (x3 : Int32) (x4 : Int32) (v : gV) : Int32 × gV := f_X12_treats_0 x1 x2 x3 x4 v
def p_X12_treats  (x1 : Int32) (x2 : Int32) (x3 : Int32) (x4 : Int32) (v : gV) : Prop := p_X12_treats_0 x1 x2 x3 x4 v
theorem c_X12_treats {E : gE} {d : Nat}   (hd : 0 ≤ d) (x1 : Int32) (x2 : Int32) (x3 : Int32) (x4 : Int32) (v : gV) (hp : p_X12_treats x1 x2 x3 x4 v) : CT E m_X12_treats d 0 0 [.ref (gX E + 559), .int x1, .int x2, .int x3, .int x4] (rS v) (Cq (.inl (some (.int ((f_X12_treats x1 x2 x3 x4 v).1)))) (f_X12_treats x1 x2 x3 x4 v).2) := CT.of ok_X12_treats rfl (Nat.le_of_ble_eq_true rfl) (w_X12_treats_0  hd x1 x2 x3 x4 v hp ⟨rfl, rfl⟩)
def f_X12_addTreaty_42  (s0 : Int32) (v : gV) : Int32 × gV := (s0, v)
def p_X12_addTreaty_42  (s0 : Int32) (v : gV) : Prop := True
set_option maxHeartbeats 4000000 in
set_option maxRecDepth 100000 in
theorem w_X12_addTreaty_42 {E : gE} {d : Nat} {Q : gO → gS → Prop}   (hd : 2 ≤ d) (s0 : Int32) (v : gV) (hp : p_X12_addTreaty_42   s0 v) (hQ : gqIV Q (f_X12_addTreaty_42  s0 v)) : gG E m_X12_addTreaty d Q 0 0 (rS v) 42 [] [.int s0] := by
  exact g_iret rfl dX12_addTreaty_42 hQ
def f_X12_addTreaty_39  (s0 : Int32) (v : gV) : Int32 × gV := f_X12_addTreaty_42  ((f_X12_commit s0 v).1) (f_X12_commit s0 v).2
def p_X12_addTreaty_39  (s0 : Int32) (v : gV) : Prop := (p_X12_commit s0 v) ∧ (p_X12_addTreaty_42   ((f_X12_commit s0 v).1) (f_X12_commit s0 v).2)
set_option maxHeartbeats 4000000 in
set_option maxRecDepth 100000 in
theorem w_X12_addTreaty_39 {E : gE} {d : Nat} {Q : gO → gS → Prop}   (hd : 2 ≤ d) (s0 : Int32) (v : gV) (hp : p_X12_addTreaty_39   s0 v) (hQ : gqIV Q (f_X12_addTreaty_39  s0 v)) : gG E m_X12_addTreaty d Q 0 0 (rS v) 39 [] [.int s0, .ref (gX E + 559)] := by
  obtain ⟨h5, hp⟩ := hp
  refine g_callV (rest := []) s_X12_101_X12 rfl (c_X12_commit (E := E) (d := d - 1)   (by omega) s0 v h5) (by decide : kd 559 = (0, 9)) (show 559 < 572 by decide) rfl rfl (Nat.le_of_ble_eq_true rfl) (by omega) (by decide) (by decide) dX12_addTreaty_39 (adV ?_) axN
  exact w_X12_addTreaty_42  hd    ((f_X12_commit s0 v).1) (f_X12_commit s0 v).2 hp hQ
def f_X12_addTreaty_26  (s0 : Int32) (v : gV) : Int32 × gV := f_X12_addTreaty_42  s0 v
def p_X12_addTreaty_26  (s0 : Int32) (v : gV) : Prop := p_X12_addTreaty_42   s0 v
set_option maxHeartbeats 4000000 in
set_option maxRecDepth 100000 in
theorem w_X12_addTreaty_26 {E : gE} {d : Nat} {Q : gO → gS → Prop}   (hd : 2 ≤ d) (s0 : Int32) (v : gV) (hp : p_X12_addTreaty_26   s0 v) (hQ : gqIV Q (f_X12_addTreaty_26  s0 v)) : gG E m_X12_addTreaty d Q 0 0 (rS v) 26 [] [.int s0] := by
  refine g_goto 42 dX12_addTreaty_26 (by decide) ?_
  exact w_X12_addTreaty_42  hd    s0 v hp hQ
def f_X12_addTreaty_4  (x1 : Int32) (x2 : Int32) (x3 : Int32) (x4 : Int32) (v : gV) : Int32 × gV := if (f_X12_cannotTreat x1 x2 x3 x4 v) ≤ 0 then (f_X12_addTreaty_39  ((f_X12_treats x1 x2 x3 x4 v).1) (f_X12_treats x1 x2 x3 x4 v).2) else (f_X12_addTreaty_26  ((f_X12_fail (f_X12_cannotTreat x1 x2 x3 x4 v) v).1) (f_X12_fail (f_X12_cannotTreat x1 x2 x3 x4 v) v).2)
def p_X12_addTreaty_4  (x1 : Int32) (x2 : Int32) (x3 : Int32) (x4 : Int32) (v : gV) : Prop := (p_X12_cannotTreat x1 x2 x3 x4 v) ∧ ((((f_X12_cannotTreat x1 x2 x3 x4 v) ≤ 0) → ((p_X12_treats x1 x2 x3 x4 v) ∧ (p_X12_addTreaty_39   ((f_X12_treats x1 x2 x3 x4 v).1) (f_X12_treats x1 x2 x3 x4 v).2))) ∧ (¬ ((f_X12_cannotTreat x1 x2 x3 x4 v) ≤ 0) → ((p_X12_fail (f_X12_cannotTreat x1 x2 x3 x4 v) v) ∧ (p_X12_addTreaty_26   ((f_X12_fail (f_X12_cannotTreat x1 x2 x3 x4 v) v).1) (f_X12_fail (f_X12_cannotTreat x1 x2 x3 x4 v) v).2))))
set_option maxHeartbeats 4000000 in
set_option maxRecDepth 100000 in
theorem w_X12_addTreaty_4 {E : gE} {d : Nat} {Q : gO → gS → Prop}   (hd : 2 ≤ d) (x1 : Int32) (x2 : Int32) (x3 : Int32) (x4 : Int32) (v : gV) (hp : p_X12_addTreaty_4   x1 x2 x3 x4 v) (hQ : gqIV Q (f_X12_addTreaty_4  x1 x2 x3 x4 v)) : gG E m_X12_addTreaty d Q 0 0 (rS v) 4 [(0, .ref (gX E + 559)), (1, .int x1), (2, .int x2), (3, .int x3), (4, .int x4)] [] := by
  refine g_aload_n 0 dX12_addTreaty_4 rfl ?_
  refine g_iload_n 1 dX12_addTreaty_5 rfl ?_
  refine g_iload_n 2 dX12_addTreaty_6 rfl ?_
  refine g_iload_n 3 dX12_addTreaty_7 rfl ?_
  refine g_iload 4 dX12_addTreaty_8 rfl ?_
  obtain ⟨h2, hp⟩ := hp
  refine g_callV (rest := []) s_X12_127_X12 rfl (c_X12_cannotTreat (E := E) (d := d - 1)   (by omega) x1 x2 x3 x4 v h2) (by decide : kd 559 = (0, 9)) (show 559 < 572 by decide) rfl rfl (Nat.le_of_ble_eq_true rfl) (by omega) (by decide) (by decide) dX12_addTreaty_10 (adV ?_) axN
  refine g_istore [(5, .int ((f_X12_cannotTreat x1 x2 x3 x4 v))), (0, .ref (gX E + 559)), (1, .int x1), (2, .int x2), (3, .int x3), (4, .int x4)] dX12_addTreaty_13 (by decide) rfl ?_
  refine g_iload 0 dX12_addTreaty_15 rfl ?_
  refine g_if_le 29 dX12_addTreaty_17 (by decide) (fun h3 => ?_) (fun h3 => ?_)
  · have hQ := qp (P := gqIV Q) h3 hQ
    have hp := hp.1 h3
    refine g_aload_n 1 dX12_addTreaty_29 rfl ?_
    refine g_aload_n 1 dX12_addTreaty_30 rfl ?_
    refine g_iload_n 2 dX12_addTreaty_31 rfl ?_
    refine g_iload_n 3 dX12_addTreaty_32 rfl ?_
    refine g_iload_n 4 dX12_addTreaty_33 rfl ?_
    refine g_iload 5 dX12_addTreaty_34 rfl ?_
    obtain ⟨h4, hp⟩ := hp
    refine g_callV (rest := [.ref (gX E + 559)]) s_X12_131_X12 rfl (c_X12_treats (E := E) (d := d - 1)   (by omega) x1 x2 x3 x4 v h4) (by decide : kd 559 = (0, 9)) (show 559 < 572 by decide) rfl rfl (Nat.le_of_ble_eq_true rfl) (by omega) (by decide) (by decide) dX12_addTreaty_36 (adV ?_) axN
    refine g_lv (lv' := []) [] rfl ?_
    exact w_X12_addTreaty_39  hd    ((f_X12_treats x1 x2 x3 x4 v).1) (f_X12_treats x1 x2 x3 x4 v).2 hp hQ
  · have hQ := qn (P := gqIV Q) h3 hQ
    have hp := hp.2 h3
    refine g_aload_n 1 dX12_addTreaty_20 rfl ?_
    refine g_iload 0 dX12_addTreaty_21 rfl ?_
    obtain ⟨h6, hp⟩ := hp
    refine g_callV (rest := []) s_X12_94_X12 rfl (c_X12_fail (E := E) (d := d - 1)   (by omega) (f_X12_cannotTreat x1 x2 x3 x4 v) v h6) (by decide : kd 559 = (0, 9)) (show 559 < 572 by decide) rfl rfl (Nat.le_of_ble_eq_true rfl) (by omega) (by decide) (by decide) dX12_addTreaty_23 (adV ?_) axN
    refine g_lv (lv' := []) [] rfl ?_
    exact w_X12_addTreaty_26  hd    ((f_X12_fail (f_X12_cannotTreat x1 x2 x3 x4 v) v).1) (f_X12_fail (f_X12_cannotTreat x1 x2 x3 x4 v) v).2 hp hQ
def f_X12_addTreaty_0  (x1 : Int32) (x2 : Int32) (x3 : Int32) (x4 : Int32) (v : gV) : Int32 × gV := f_X12_addTreaty_4  x1 x2 x3 x4 (f_X12_begin  v)
def p_X12_addTreaty_0  (x1 : Int32) (x2 : Int32) (x3 : Int32) (x4 : Int32) (v : gV) : Prop := (p_X12_begin  v) ∧ (p_X12_addTreaty_4   x1 x2 x3 x4 (f_X12_begin  v))
set_option maxHeartbeats 4000000 in
set_option maxRecDepth 100000 in
theorem w_X12_addTreaty_0 {E : gE} {d : Nat} {Q : gO → gS → Prop}   (hd : 2 ≤ d) (x1 : Int32) (x2 : Int32) (x3 : Int32) (x4 : Int32) (v : gV) (hp : p_X12_addTreaty_0   x1 x2 x3 x4 v) (hQ : gqIV Q (f_X12_addTreaty_0  x1 x2 x3 x4 v)) : gG E m_X12_addTreaty d Q 0 0 (rS v) 0 [(0, .ref (gX E + 559)), (1, .int x1), (2, .int x2), (3, .int x3), (4, .int x4)] [] := by
  refine g_aload_n 0 dX12_addTreaty_0 rfl ?_
  obtain ⟨h1, hp⟩ := hp
  refine g_callV (rest := []) s_X12_87_X12 rfl (c_X12_begin (E := E) (d := d - 1)   (by omega)  v h1) (by decide : kd 559 = (0, 9)) (show 559 < 572 by decide) rfl rfl (Nat.le_of_ble_eq_true rfl) (by omega) (by decide) (by decide) dX12_addTreaty_1 (adN ?_) axN
  exact w_X12_addTreaty_4  hd    x1 x2 x3 x4 (f_X12_begin  v) hp hQ
def f_X12_addTreaty  (x1 : Int32) (x2 : Int32) (x3 : Int32) (x4 : Int32) (v : gV) : Int32 × gV := f_X12_addTreaty_0 x1 x2 x3 x4 v
def p_X12_addTreaty  (x1 : Int32) (x2 : Int32) (x3 : Int32) (x4 : Int32) (v : gV) : Prop := p_X12_addTreaty_0 x1 x2 x3 x4 v
theorem c_X12_addTreaty {E : gE} {d : Nat}   (hd : 2 ≤ d) (x1 : Int32) (x2 : Int32) (x3 : Int32) (x4 : Int32) (v : gV) (hp : p_X12_addTreaty x1 x2 x3 x4 v) : CT E m_X12_addTreaty d 0 0 [.ref (gX E + 559), .int x1, .int x2, .int x3, .int x4] (rS v) (Cq (.inl (some (.int ((f_X12_addTreaty x1 x2 x3 x4 v).1)))) (f_X12_addTreaty x1 x2 x3 x4 v).2) := CT.of ok_X12_addTreaty rfl (Nat.le_of_ble_eq_true rfl) (w_X12_addTreaty_0  hd x1 x2 x3 x4 v hp ⟨rfl, rfl⟩)
def f_X12_voids_113  (K34 : Int32 → Int32 → Int32 → gV → Int32 × gV)  (x1 : Int32) (x2 : Int32) (x3 : Int32) (v : gV) : Int32 × gV := K34 x1 x2 (x3 + 1) v
def p_X12_voids_113  (K34 : Int32 → Int32 → Int32 → gV → Int32 × gV)  (PK34 : Int32 → Int32 → Int32 → gV → Prop)  (x1 : Int32) (x2 : Int32) (x3 : Int32) (v : gV) : Prop := PK34 x1 x2 (x3 + 1) v
set_option maxHeartbeats 4000000 in
set_option maxRecDepth 100000 in
theorem w_X12_voids_113 {E : gE} {d : Nat} {Q : gO → gS → Prop}   (hd : 1 ≤ d) (K34 : Int32 → Int32 → Int32 → gV → Int32 × gV)  (PK34 : Int32 → Int32 → Int32 → gV → Prop)  (hK34 : ∀ (x1 : Int32) (x2 : Int32) (x3 : Int32) (v : gV), PK34 x1 x2 x3 v → gqIV Q (K34 x1 x2 x3 v) → gG E m_X12_voids d Q 0 0 (rS v) 34 [(0, .ref (gX E + 559)), (1, .int x1), (2, .int x2), (3, .int x3)] [])  (x1 : Int32) (x2 : Int32) (x3 : Int32) (v : gV) (hp : p_X12_voids_113 K34 PK34 x1 x2 x3 v) (hQ : gqIV Q (f_X12_voids_113 K34 x1 x2 x3 v)) : gG E m_X12_voids d Q 0 0 (rS v) 113 [(0, .ref (gX E + 559)), (1, .int x1), (2, .int x2), (3, .int x3)] [] := by
  refine g_iinc 3 (x3 + 1) [(3, .int (x3 + 1)), (0, .ref (gX E + 559)), (1, .int x1), (2, .int x2)] dX12_voids_113 rfl rfl (by decide) rfl ?_
  refine g_goto 34 dX12_voids_116 (by decide) ?_
  refine g_lv (lv' := [(0, .ref (gX E + 559)), (1, .int x1), (2, .int x2), (3, .int (x3 + 1))]) [1, 2, 3, 0] rfl ?_
  exact hK34 x1 x2 (x3 + 1) v hp hQ
def f_X12_voids_92  (K34 : Int32 → Int32 → Int32 → gV → Int32 × gV)  (K59 : Int32 → Int32 → Int32 → Int32 → Int32 → gV → Int32 × gV)  (x1 : Int32) (x2 : Int32) (x3 : Int32) (x4 : Int32) (x5 : Int32) (v : gV) : Int32 × gV := K59 x1 x2 x3 x4 (x5 + 1) v
def p_X12_voids_92  (K34 : Int32 → Int32 → Int32 → gV → Int32 × gV)  (K59 : Int32 → Int32 → Int32 → Int32 → Int32 → gV → Int32 × gV)  (PK34 : Int32 → Int32 → Int32 → gV → Prop)  (PK59 : Int32 → Int32 → Int32 → Int32 → Int32 → gV → Prop)  (x1 : Int32) (x2 : Int32) (x3 : Int32) (x4 : Int32) (x5 : Int32) (v : gV) : Prop := PK59 x1 x2 x3 x4 (x5 + 1) v
set_option maxHeartbeats 4000000 in
set_option maxRecDepth 100000 in
theorem w_X12_voids_92 {E : gE} {d : Nat} {Q : gO → gS → Prop}   (hd : 1 ≤ d) (K34 : Int32 → Int32 → Int32 → gV → Int32 × gV)  (K59 : Int32 → Int32 → Int32 → Int32 → Int32 → gV → Int32 × gV)  (PK34 : Int32 → Int32 → Int32 → gV → Prop)  (PK59 : Int32 → Int32 → Int32 → Int32 → Int32 → gV → Prop)  (hK34 : ∀ (x1 : Int32) (x2 : Int32) (x3 : Int32) (v : gV), PK34 x1 x2 x3 v → gqIV Q (K34 x1 x2 x3 v) → gG E m_X12_voids d Q 0 0 (rS v) 34 [(0, .ref (gX E + 559)), (1, .int x1), (2, .int x2), (3, .int x3)] [])  (hK59 : ∀ (x1 : Int32) (x2 : Int32) (x3 : Int32) (x4 : Int32) (x5 : Int32) (v : gV), PK59 x1 x2 x3 x4 x5 v → gqIV Q (K59 x1 x2 x3 x4 x5 v) → gG E m_X12_voids d Q 0 0 (rS v) 59 [(0, .ref (gX E + 559)), (1, .int x1), (2, .int x2), (3, .int x3), (4, .int x4), (5, .int x5)] [])  (x1 : Int32) (x2 : Int32) (x3 : Int32) (x4 : Int32) (x5 : Int32) (v : gV) (hp : p_X12_voids_92 K34 K59 PK34 PK59 x1 x2 x3 x4 x5 v) (hQ : gqIV Q (f_X12_voids_92 K34 K59 x1 x2 x3 x4 x5 v)) : gG E m_X12_voids d Q 0 0 (rS v) 92 [(0, .ref (gX E + 559)), (1, .int x1), (2, .int x2), (3, .int x3), (4, .int x4), (5, .int x5)] [] := by
  refine g_iinc 5 (x5 + 1) [(5, .int (x5 + 1)), (0, .ref (gX E + 559)), (1, .int x1), (2, .int x2), (3, .int x3), (4, .int x4)] dX12_voids_92 rfl rfl (by decide) rfl ?_
  refine g_goto 59 dX12_voids_95 (by decide) ?_
  refine g_lv (lv' := [(0, .ref (gX E + 559)), (1, .int x1), (2, .int x2), (3, .int x3), (4, .int x4), (5, .int (x5 + 1))]) [1, 2, 3, 4, 5, 0] rfl ?_
  exact hK59 x1 x2 x3 x4 (x5 + 1) v hp hQ
def f_X12_voids_59  (K34 : Int32 → Int32 → Int32 → gV → Int32 × gV)  : Nat → Int32 → Int32 → Int32 → Int32 → Int32 → gV → Int32 × gV
  | 0, _, _, _, _, _, v => (0, v)
  | n + 1, x1, x2, x3, x4, x5, v => if (v.1 560 (2 : Int32).toNatClampNeg) ≤ x5 then (f_X12_voids_113 K34 x1 x2 x3 (vM v 560 (x4 + (v.1 560 (2 : Int32).toNatClampNeg)).toNatClampNeg (0 : Int32))) else (f_X12_voids_92 K34 (fun x1 x2 x3 x4 x5 v => f_X12_voids_59 K34 n x1 x2 x3 x4 x5 v) x1 x2 x3 x4 x5 (vM v 560 (x4 + x5).toNatClampNeg (v.1 560 ((x4 + x5) + (1 : Int32)).toNatClampNeg)))
def p_X12_voids_59  (K34 : Int32 → Int32 → Int32 → gV → Int32 × gV)  (PK34 : Int32 → Int32 → Int32 → gV → Prop)  : Nat → Int32 → Int32 → Int32 → Int32 → Int32 → gV → Prop
  | 0, _, _, _, _, _, _ => False
  | n + 1, x1, x2, x3, x4, x5, v => (((v.1 560 (2 : Int32).toNatClampNeg) ≤ x5) → ((vp_in (x4 + (v.1 560 (2 : Int32).toNatClampNeg)) 300) ∧ (p_X12_voids_113 K34 PK34 x1 x2 x3 (vM v 560 (x4 + (v.1 560 (2 : Int32).toNatClampNeg)).toNatClampNeg (0 : Int32))))) ∧ (¬ ((v.1 560 (2 : Int32).toNatClampNeg) ≤ x5) → ((vp_in ((x4 + x5) + (1 : Int32)) 300) ∧ ((vp_in (x4 + x5) 300) ∧ (p_X12_voids_92 K34 (fun x1 x2 x3 x4 x5 v => f_X12_voids_59 K34 n x1 x2 x3 x4 x5 v) PK34 (fun x1 x2 x3 x4 x5 v => p_X12_voids_59 K34 PK34 n x1 x2 x3 x4 x5 v) x1 x2 x3 x4 x5 (vM v 560 (x4 + x5).toNatClampNeg (v.1 560 ((x4 + x5) + (1 : Int32)).toNatClampNeg))))))
set_option maxHeartbeats 4000000 in
set_option maxRecDepth 100000 in
theorem w_X12_voids_59 {E : gE} {d : Nat} {Q : gO → gS → Prop}   (hd : 1 ≤ d) (K34 : Int32 → Int32 → Int32 → gV → Int32 × gV)  (PK34 : Int32 → Int32 → Int32 → gV → Prop)  (hK34 : ∀ (x1 : Int32) (x2 : Int32) (x3 : Int32) (v : gV), PK34 x1 x2 x3 v → gqIV Q (K34 x1 x2 x3 v) → gG E m_X12_voids d Q 0 0 (rS v) 34 [(0, .ref (gX E + 559)), (1, .int x1), (2, .int x2), (3, .int x3)] [])  : ∀ (n : Nat) (x1 : Int32) (x2 : Int32) (x3 : Int32) (x4 : Int32) (x5 : Int32) (v : gV), p_X12_voids_59 K34 PK34 n x1 x2 x3 x4 x5 v → gqIV Q (f_X12_voids_59 K34 n x1 x2 x3 x4 x5 v) → gG E m_X12_voids d Q 0 0 (rS v) 59 [(0, .ref (gX E + 559)), (1, .int x1), (2, .int x2), (3, .int x3), (4, .int x4), (5, .int x5)] [] := by
  intro n
  induction n with
  | zero => intro x1 x2 x3 x4 x5 v hp; exact hp.elim
  | succ n ih =>
    intro x1 x2 x3 x4 x5 v hp hQ
    refine g_iload 5 dX12_voids_59 rfl ?_
    refine g_aload_n 0 dX12_voids_61 rfl ?_
    refine r_get (.ref (gX E + 560)) f_X12_7_X12 rfl (by decide : kd 559 = (0, 9)) (show 559 < 572 by decide) dX12_voids_62 (fun _ => rfl) ?_
    refine g_iconst dX12_voids_65 (2 : Int32) (by decide) ?_
    refine g_iald (by decide : kd 560 = (1, 300)) (show 560 < 572 by decide) (show ¬ (_ ∨ _) by decide) dX12_voids_66 ?_
    refine g_icmp_ge 98 dX12_voids_67 (by decide) (fun h4 => ?_) (fun h4 => ?_)
    · have hQ := qp (P := gqIV Q) h4 hQ
      have hp := hp.1 h4
      refine g_aload_n 0 dX12_voids_98 rfl ?_
      refine r_get (.ref (gX E + 560)) f_X12_7_X12 rfl (by decide : kd 559 = (0, 9)) (show 559 < 572 by decide) dX12_voids_99 (fun _ => rfl) ?_
      refine g_iload 4 dX12_voids_102 rfl ?_
      refine g_aload_n 0 dX12_voids_104 rfl ?_
      refine r_get (.ref (gX E + 560)) f_X12_7_X12 rfl (by decide : kd 559 = (0, 9)) (show 559 < 572 by decide) dX12_voids_105 (fun _ => rfl) ?_
      refine g_iconst dX12_voids_108 (2 : Int32) (by decide) ?_
      refine g_iald (by decide : kd 560 = (1, 300)) (show 560 < 572 by decide) (show ¬ (_ ∨ _) by decide) dX12_voids_109 ?_
      refine g_iadd dX12_voids_110 ?_
      refine g_iconst dX12_voids_111 (0 : Int32) (by decide) ?_
      obtain ⟨h5, hp⟩ := hp
      refine r_iast (by decide : kd 560 = (1, 300)) (show 560 < 572 by decide) h5 dX12_voids_112 ?_
      refine g_lv (lv' := [(0, .ref (gX E + 559)), (1, .int x1), (2, .int x2), (3, .int x3)]) [0, 1, 2, 3] rfl ?_
      exact w_X12_voids_113  hd K34 PK34 hK34 x1 x2 x3 (vM v 560 (x4 + (v.1 560 (2 : Int32).toNatClampNeg)).toNatClampNeg (0 : Int32)) hp hQ
    · have hQ := qn (P := gqIV Q) h4 hQ
      have hp := hp.2 h4
      refine g_aload_n 0 dX12_voids_70 rfl ?_
      refine r_get (.ref (gX E + 560)) f_X12_7_X12 rfl (by decide : kd 559 = (0, 9)) (show 559 < 572 by decide) dX12_voids_71 (fun _ => rfl) ?_
      refine g_iload 4 dX12_voids_74 rfl ?_
      refine g_iload 5 dX12_voids_76 rfl ?_
      refine g_iadd dX12_voids_78 ?_
      refine g_aload_n 0 dX12_voids_79 rfl ?_
      refine r_get (.ref (gX E + 560)) f_X12_7_X12 rfl (by decide : kd 559 = (0, 9)) (show 559 < 572 by decide) dX12_voids_80 (fun _ => rfl) ?_
      refine g_iload 4 dX12_voids_83 rfl ?_
      refine g_iload 5 dX12_voids_85 rfl ?_
      refine g_iadd dX12_voids_87 ?_
      refine g_iconst dX12_voids_88 (1 : Int32) (by decide) ?_
      refine g_iadd dX12_voids_89 ?_
      obtain ⟨h6, hp⟩ := hp
      refine g_iald (by decide : kd 560 = (1, 300)) (show 560 < 572 by decide) h6 dX12_voids_90 ?_
      obtain ⟨h7, hp⟩ := hp
      refine r_iast (by decide : kd 560 = (1, 300)) (show 560 < 572 by decide) h7 dX12_voids_91 ?_
      exact w_X12_voids_92  hd K34 (fun x1 x2 x3 x4 x5 v => f_X12_voids_59 K34 n x1 x2 x3 x4 x5 v) PK34 (fun x1 x2 x3 x4 x5 v => p_X12_voids_59 K34 PK34 n x1 x2 x3 x4 x5 v) hK34 ih x1 x2 x3 x4 x5 (vM v 560 (x4 + x5).toNatClampNeg (v.1 560 ((x4 + x5) + (1 : Int32)).toNatClampNeg)) hp hQ
def f_X12_voids_34  : Nat → Int32 → Int32 → Int32 → gV → Int32 × gV
  | 0, _, _, _, v => (0, v)
  | n + 1, x1, x2, x3, v => if (v.1 560 (1 : Int32).toNatClampNeg) ≤ x3 then ((x2, v)) else (f_X12_voids_59 (fun x1 x2 x3 v => f_X12_voids_34  n x1 x2 x3 v) 5000 x1 x2 x3 (((72 : Int32) + ((12 : Int32) * x3)) + (6 : Int32)) x1 v)
def p_X12_voids_34  : Nat → Int32 → Int32 → Int32 → gV → Prop
  | 0, _, _, _, _ => False
  | n + 1, x1, x2, x3, v => (((v.1 560 (1 : Int32).toNatClampNeg) ≤ x3) → (True)) ∧ (¬ ((v.1 560 (1 : Int32).toNatClampNeg) ≤ x3) → (p_X12_voids_59 (fun x1 x2 x3 v => f_X12_voids_34  n x1 x2 x3 v) (fun x1 x2 x3 v => p_X12_voids_34   n x1 x2 x3 v) 5000 x1 x2 x3 (((72 : Int32) + ((12 : Int32) * x3)) + (6 : Int32)) x1 v))
set_option maxHeartbeats 4000000 in
set_option maxRecDepth 100000 in
theorem w_X12_voids_34 {E : gE} {d : Nat} {Q : gO → gS → Prop}   (hd : 1 ≤ d) : ∀ (n : Nat) (x1 : Int32) (x2 : Int32) (x3 : Int32) (v : gV), p_X12_voids_34   n x1 x2 x3 v → gqIV Q (f_X12_voids_34  n x1 x2 x3 v) → gG E m_X12_voids d Q 0 0 (rS v) 34 [(0, .ref (gX E + 559)), (1, .int x1), (2, .int x2), (3, .int x3)] [] := by
  intro n
  induction n with
  | zero => intro x1 x2 x3 v hp; exact hp.elim
  | succ n ih =>
    intro x1 x2 x3 v hp hQ
    refine g_iload_n 3 dX12_voids_34 rfl ?_
    refine g_aload_n 0 dX12_voids_35 rfl ?_
    refine r_get (.ref (gX E + 560)) f_X12_7_X12 rfl (by decide : kd 559 = (0, 9)) (show 559 < 572 by decide) dX12_voids_36 (fun _ => rfl) ?_
    refine g_iconst dX12_voids_39 (1 : Int32) (by decide) ?_
    refine g_iald (by decide : kd 560 = (1, 300)) (show 560 < 572 by decide) (show ¬ (_ ∨ _) by decide) dX12_voids_40 ?_
    refine g_icmp_ge 119 dX12_voids_41 (by decide) (fun h3 => ?_) (fun h3 => ?_)
    · have hQ := qp (P := gqIV Q) h3 hQ
      have hp := hp.1 h3
      refine g_iload_n 2 dX12_voids_119 rfl ?_
      exact g_iret rfl dX12_voids_120 hQ
    · have hQ := qn (P := gqIV Q) h3 hQ
      have hp := hp.2 h3
      refine g_bipush dX12_voids_44 (72 : Int32) (by decide) ?_
      refine g_bipush dX12_voids_46 (12 : Int32) (by decide) ?_
      refine g_iload_n 3 dX12_voids_48 rfl ?_
      refine g_imul dX12_voids_49 ?_
      refine g_iadd dX12_voids_50 ?_
      refine g_bipush dX12_voids_51 (6 : Int32) (by decide) ?_
      refine g_iadd dX12_voids_53 ?_
      refine g_istore [(4, .int (((72 : Int32) + ((12 : Int32) * x3)) + (6 : Int32))), (0, .ref (gX E + 559)), (1, .int x1), (2, .int x2), (3, .int x3)] dX12_voids_54 (by decide) rfl ?_
      refine g_iload_n 2 dX12_voids_56 rfl ?_
      refine g_istore [(5, .int x1), (4, .int (((72 : Int32) + ((12 : Int32) * x3)) + (6 : Int32))), (0, .ref (gX E + 559)), (1, .int x1), (2, .int x2), (3, .int x3)] dX12_voids_57 (by decide) rfl ?_
      refine g_lv (lv' := [(0, .ref (gX E + 559)), (1, .int x1), (2, .int x2), (3, .int x3), (4, .int (((72 : Int32) + ((12 : Int32) * x3)) + (6 : Int32))), (5, .int x1)]) [2, 3, 4, 5, 1, 0] rfl ?_
      exact w_X12_voids_59  hd (fun x1 x2 x3 v => f_X12_voids_34  n x1 x2 x3 v) (fun x1 x2 x3 v => p_X12_voids_34   n x1 x2 x3 v) ih 5000 x1 x2 x3 (((72 : Int32) + ((12 : Int32) * x3)) + (6 : Int32)) x1 v hp hQ
def f_X12_voids_32  (x1 : Int32) (x2 : Int32) (v : gV) : Int32 × gV := f_X12_voids_34  5000 x1 x2 (0 : Int32) v
def p_X12_voids_32  (x1 : Int32) (x2 : Int32) (v : gV) : Prop := p_X12_voids_34   5000 x1 x2 (0 : Int32) v
set_option maxHeartbeats 4000000 in
set_option maxRecDepth 100000 in
theorem w_X12_voids_32 {E : gE} {d : Nat} {Q : gO → gS → Prop}   (hd : 1 ≤ d) (x1 : Int32) (x2 : Int32) (v : gV) (hp : p_X12_voids_32   x1 x2 v) (hQ : gqIV Q (f_X12_voids_32  x1 x2 v)) : gG E m_X12_voids d Q 0 0 (rS v) 32 [(0, .ref (gX E + 559)), (1, .int x1), (2, .int x2)] [] := by
  refine g_iconst dX12_voids_32 (0 : Int32) (by decide) ?_
  refine g_istore_n [(3, .int ((0 : Int32))), (0, .ref (gX E + 559)), (1, .int x1), (2, .int x2)] dX12_voids_33 rfl (by decide) rfl ?_
  refine g_lv (lv' := [(0, .ref (gX E + 559)), (1, .int x1), (2, .int x2), (3, .int ((0 : Int32)))]) [1, 2, 3, 0] rfl ?_
  exact w_X12_voids_34  hd    5000 x1 x2 (0 : Int32) v hp hQ
def f_X12_voids_17  (x1 : Int32) (x2 : Int32) (v : gV) : Int32 × gV := f_X12_voids_32  x1 x2 (f_X12_removeRow (216 : Int32) (4 : Int32) x1 (v.1 560 (2 : Int32).toNatClampNeg) v)
def p_X12_voids_17  (x1 : Int32) (x2 : Int32) (v : gV) : Prop := (p_X12_removeRow (216 : Int32) (4 : Int32) x1 (v.1 560 (2 : Int32).toNatClampNeg) v) ∧ (p_X12_voids_32   x1 x2 (f_X12_removeRow (216 : Int32) (4 : Int32) x1 (v.1 560 (2 : Int32).toNatClampNeg) v))
set_option maxHeartbeats 4000000 in
set_option maxRecDepth 100000 in
theorem w_X12_voids_17 {E : gE} {d : Nat} {Q : gO → gS → Prop}   (hd : 1 ≤ d) (x1 : Int32) (x2 : Int32) (v : gV) (hp : p_X12_voids_17   x1 x2 v) (hQ : gqIV Q (f_X12_voids_17  x1 x2 v)) : gG E m_X12_voids d Q 0 0 (rS v) 17 [(0, .ref (gX E + 559)), (1, .int x1), (2, .int x2)] [] := by
  refine g_aload_n 0 dX12_voids_17 rfl ?_
  refine g_sipush dX12_voids_18 (216 : Int32) (by decide) ?_
  refine g_iconst dX12_voids_21 (4 : Int32) (by decide) ?_
  refine g_iload_n 1 dX12_voids_22 rfl ?_
  refine g_aload_n 0 dX12_voids_23 rfl ?_
  refine r_get (.ref (gX E + 560)) f_X12_7_X12 rfl (by decide : kd 559 = (0, 9)) (show 559 < 572 by decide) dX12_voids_24 (fun _ => rfl) ?_
  refine g_iconst dX12_voids_27 (2 : Int32) (by decide) ?_
  refine g_iald (by decide : kd 560 = (1, 300)) (show 560 < 572 by decide) (show ¬ (_ ∨ _) by decide) dX12_voids_28 ?_
  obtain ⟨h2, hp⟩ := hp
  refine g_callV (rest := []) s_X12_117_X12 rfl (c_X12_removeRow (E := E) (d := d - 1)   (by omega) (216 : Int32) (4 : Int32) x1 (v.1 560 (2 : Int32).toNatClampNeg) v h2) (by decide : kd 559 = (0, 9)) (show 559 < 572 by decide) rfl rfl (Nat.le_of_ble_eq_true rfl) (by omega) (by decide) (by decide) dX12_voids_29 (adN ?_) axN
  exact w_X12_voids_32  hd    x1 x2 (f_X12_removeRow (216 : Int32) (4 : Int32) x1 (v.1 560 (2 : Int32).toNatClampNeg) v) hp hQ
def f_X12_voids_0  (x1 : Int32) (v : gV) : Int32 × gV := f_X12_voids_17  x1 (f_X12_t x1 (2 : Int32) v) (vM v 560 (2 : Int32).toNatClampNeg ((v.1 560 (2 : Int32).toNatClampNeg) - (1 : Int32)))
def p_X12_voids_0  (x1 : Int32) (v : gV) : Prop := (p_X12_t x1 (2 : Int32) v) ∧ (p_X12_voids_17   x1 (f_X12_t x1 (2 : Int32) v) (vM v 560 (2 : Int32).toNatClampNeg ((v.1 560 (2 : Int32).toNatClampNeg) - (1 : Int32))))
set_option maxHeartbeats 4000000 in
set_option maxRecDepth 100000 in
theorem w_X12_voids_0 {E : gE} {d : Nat} {Q : gO → gS → Prop}   (hd : 1 ≤ d) (x1 : Int32) (v : gV) (hp : p_X12_voids_0   x1 v) (hQ : gqIV Q (f_X12_voids_0  x1 v)) : gG E m_X12_voids d Q 0 0 (rS v) 0 [(0, .ref (gX E + 559)), (1, .int x1)] [] := by
  refine g_aload_n 0 dX12_voids_0 rfl ?_
  refine g_iload_n 1 dX12_voids_1 rfl ?_
  refine g_iconst dX12_voids_2 (2 : Int32) (by decide) ?_
  obtain ⟨h1, hp⟩ := hp
  refine g_callV (rest := []) s_X12_137_X12 rfl (c_X12_t (E := E) (d := d - 1)   (by omega) x1 (2 : Int32) v h1) (by decide : kd 559 = (0, 9)) (show 559 < 572 by decide) rfl rfl (Nat.le_of_ble_eq_true rfl) (by omega) (by decide) (by decide) dX12_voids_3 (adV ?_) axN
  refine g_istore_n [(2, .int ((f_X12_t x1 (2 : Int32) v))), (0, .ref (gX E + 559)), (1, .int x1)] dX12_voids_6 rfl (by decide) rfl ?_
  refine g_aload_n 1 dX12_voids_7 rfl ?_
  refine r_get (.ref (gX E + 560)) f_X12_7_X12 rfl (by decide : kd 559 = (0, 9)) (show 559 < 572 by decide) dX12_voids_8 (fun _ => rfl) ?_
  refine g_iconst dX12_voids_11 (2 : Int32) (by decide) ?_
  refine g_dup2 dX12_voids_12 rfl rfl ?_
  refine g_iald (by decide : kd 560 = (1, 300)) (show 560 < 572 by decide) (show ¬ (_ ∨ _) by decide) dX12_voids_13 ?_
  refine g_iconst dX12_voids_14 (1 : Int32) (by decide) ?_
  refine g_isub dX12_voids_15 ?_
  refine r_iast (by decide : kd 560 = (1, 300)) (show 560 < 572 by decide) (show ¬ (_ ∨ _) by decide) dX12_voids_16 ?_
  refine g_lv (lv' := [(0, .ref (gX E + 559)), (1, .int x1), (2, .int ((f_X12_t x1 (2 : Int32) v)))]) [1, 2, 0] rfl ?_
  exact w_X12_voids_17  hd    x1 (f_X12_t x1 (2 : Int32) v) (vM v 560 (2 : Int32).toNatClampNeg ((v.1 560 (2 : Int32).toNatClampNeg) - (1 : Int32))) hp hQ
def f_X12_voids  (x1 : Int32) (v : gV) : Int32 × gV := f_X12_voids_0 x1 v
def p_X12_voids  (x1 : Int32) (v : gV) : Prop := p_X12_voids_0 x1 v
theorem c_X12_voids {E : gE} {d : Nat}   (hd : 1 ≤ d) (x1 : Int32) (v : gV) (hp : p_X12_voids x1 v) : CT E m_X12_voids d 0 0 [.ref (gX E + 559), .int x1] (rS v) (Cq (.inl (some (.int ((f_X12_voids x1 v).1)))) (f_X12_voids x1 v).2) := CT.of ok_X12_voids rfl (Nat.le_of_ble_eq_true rfl) (w_X12_voids_0  hd x1 v hp ⟨rfl, rfl⟩)
def f_X12_bears_144  (K48 : Int32 → Int32 → Int32 → gV → Int32 × gV)  (x1 : Int32) (x2 : Int32) (x3 : Int32) (v : gV) : Int32 × gV := K48 x1 x2 (x3 + 1) v
def p_X12_bears_144  (K48 : Int32 → Int32 → Int32 → gV → Int32 × gV)  (PK48 : Int32 → Int32 → Int32 → gV → Prop)  (x1 : Int32) (x2 : Int32) (x3 : Int32) (v : gV) : Prop := PK48 x1 x2 (x3 + 1) v
set_option maxHeartbeats 4000000 in
set_option maxRecDepth 100000 in
theorem w_X12_bears_144 {E : gE} {d : Nat} {Q : gO → gS → Prop}   (hd : 2 ≤ d) (K48 : Int32 → Int32 → Int32 → gV → Int32 × gV)  (PK48 : Int32 → Int32 → Int32 → gV → Prop)  (hK48 : ∀ (x1 : Int32) (x2 : Int32) (x3 : Int32) (v : gV), PK48 x1 x2 x3 v → gqIV Q (K48 x1 x2 x3 v) → gG E m_X12_bears d Q 0 0 (rS v) 48 [(0, .ref (gX E + 559)), (1, .int x1), (2, .int x2), (3, .int x3)] [])  (x1 : Int32) (x2 : Int32) (x3 : Int32) (v : gV) (hp : p_X12_bears_144 K48 PK48 x1 x2 x3 v) (hQ : gqIV Q (f_X12_bears_144 K48 x1 x2 x3 v)) : gG E m_X12_bears d Q 0 0 (rS v) 144 [(0, .ref (gX E + 559)), (1, .int x1), (2, .int x2), (3, .int x3)] [] := by
  refine g_iinc 3 (x3 + 1) [(3, .int (x3 + 1)), (0, .ref (gX E + 559)), (1, .int x1), (2, .int x2)] dX12_bears_144 rfl rfl (by decide) rfl ?_
  refine g_goto 48 dX12_bears_147 (by decide) ?_
  refine g_lv (lv' := [(0, .ref (gX E + 559)), (1, .int x1), (2, .int x2), (3, .int (x3 + 1))]) [1, 2, 3, 0] rfl ?_
  exact hK48 x1 x2 (x3 + 1) v hp hQ
def f_X12_bears_138  (K48 : Int32 → Int32 → Int32 → gV → Int32 × gV)  (K56 : Int32 → Int32 → Int32 → Int32 → gV → Int32 × gV)  (x1 : Int32) (x2 : Int32) (x3 : Int32) (x4 : Int32) (v : gV) : Int32 × gV := K56 x1 x2 x3 (x4 + 1) v
def p_X12_bears_138  (K48 : Int32 → Int32 → Int32 → gV → Int32 × gV)  (K56 : Int32 → Int32 → Int32 → Int32 → gV → Int32 × gV)  (PK48 : Int32 → Int32 → Int32 → gV → Prop)  (PK56 : Int32 → Int32 → Int32 → Int32 → gV → Prop)  (x1 : Int32) (x2 : Int32) (x3 : Int32) (x4 : Int32) (v : gV) : Prop := PK56 x1 x2 x3 (x4 + 1) v
set_option maxHeartbeats 4000000 in
set_option maxRecDepth 100000 in
theorem w_X12_bears_138 {E : gE} {d : Nat} {Q : gO → gS → Prop}   (hd : 2 ≤ d) (K48 : Int32 → Int32 → Int32 → gV → Int32 × gV)  (K56 : Int32 → Int32 → Int32 → Int32 → gV → Int32 × gV)  (PK48 : Int32 → Int32 → Int32 → gV → Prop)  (PK56 : Int32 → Int32 → Int32 → Int32 → gV → Prop)  (hK48 : ∀ (x1 : Int32) (x2 : Int32) (x3 : Int32) (v : gV), PK48 x1 x2 x3 v → gqIV Q (K48 x1 x2 x3 v) → gG E m_X12_bears d Q 0 0 (rS v) 48 [(0, .ref (gX E + 559)), (1, .int x1), (2, .int x2), (3, .int x3)] [])  (hK56 : ∀ (x1 : Int32) (x2 : Int32) (x3 : Int32) (x4 : Int32) (v : gV), PK56 x1 x2 x3 x4 v → gqIV Q (K56 x1 x2 x3 x4 v) → gG E m_X12_bears d Q 0 0 (rS v) 56 [(0, .ref (gX E + 559)), (1, .int x1), (2, .int x2), (3, .int x3), (4, .int x4)] [])  (x1 : Int32) (x2 : Int32) (x3 : Int32) (x4 : Int32) (v : gV) (hp : p_X12_bears_138 K48 K56 PK48 PK56 x1 x2 x3 x4 v) (hQ : gqIV Q (f_X12_bears_138 K48 K56 x1 x2 x3 x4 v)) : gG E m_X12_bears d Q 0 0 (rS v) 138 [(0, .ref (gX E + 559)), (1, .int x1), (2, .int x2), (3, .int x3), (4, .int x4)] [] := by
  refine g_iinc 4 (x4 + 1) [(4, .int (x4 + 1)), (0, .ref (gX E + 559)), (1, .int x1), (2, .int x2), (3, .int x3)] dX12_bears_138 rfl rfl (by decide) rfl ?_
  refine g_goto 56 dX12_bears_141 (by decide) ?_
  refine g_lv (lv' := [(0, .ref (gX E + 559)), (1, .int x1), (2, .int x2), (3, .int x3), (4, .int (x4 + 1))]) [1, 2, 3, 4, 0] rfl ?_
  exact hK56 x1 x2 x3 (x4 + 1) v hp hQ
def f_X12_bears_132  (K48 : Int32 → Int32 → Int32 → gV → Int32 × gV)  (x1 : Int32) (x2 : Int32) (x3 : Int32) (v : gV) : Int32 × gV := f_X12_bears_144 K48 x1 (x2 + 1) x3 v
def p_X12_bears_132  (K48 : Int32 → Int32 → Int32 → gV → Int32 × gV)  (PK48 : Int32 → Int32 → Int32 → gV → Prop)  (x1 : Int32) (x2 : Int32) (x3 : Int32) (v : gV) : Prop := p_X12_bears_144 K48 PK48 x1 (x2 + 1) x3 v
set_option maxHeartbeats 4000000 in
set_option maxRecDepth 100000 in
theorem w_X12_bears_132 {E : gE} {d : Nat} {Q : gO → gS → Prop}   (hd : 2 ≤ d) (K48 : Int32 → Int32 → Int32 → gV → Int32 × gV)  (PK48 : Int32 → Int32 → Int32 → gV → Prop)  (hK48 : ∀ (x1 : Int32) (x2 : Int32) (x3 : Int32) (v : gV), PK48 x1 x2 x3 v → gqIV Q (K48 x1 x2 x3 v) → gG E m_X12_bears d Q 0 0 (rS v) 48 [(0, .ref (gX E + 559)), (1, .int x1), (2, .int x2), (3, .int x3)] [])  (x1 : Int32) (x2 : Int32) (x3 : Int32) (v : gV) (hp : p_X12_bears_132 K48 PK48 x1 x2 x3 v) (hQ : gqIV Q (f_X12_bears_132 K48 x1 x2 x3 v)) : gG E m_X12_bears d Q 0 0 (rS v) 132 [(0, .ref (gX E + 559)), (1, .int x1), (2, .int x2), (3, .int x3)] [] := by
  refine g_iinc 2 (x2 + 1) [(2, .int (x2 + 1)), (0, .ref (gX E + 559)), (1, .int x1), (3, .int x3)] dX12_bears_132 rfl rfl (by decide) rfl ?_
  refine g_goto 144 dX12_bears_135 (by decide) ?_
  refine g_lv (lv' := [(0, .ref (gX E + 559)), (1, .int x1), (2, .int (x2 + 1)), (3, .int x3)]) [1, 2, 0, 3] rfl ?_
  exact w_X12_bears_144  hd K48 PK48 hK48 x1 (x2 + 1) x3 v hp hQ
def f_X12_bears_121  (K48 : Int32 → Int32 → Int32 → gV → Int32 × gV)  (x1 : Int32) (x2 : Int32) (x3 : Int32) (x4 : Int32) (v : gV) : Int32 × gV := f_X12_bears_132 K48 x1 x2 x3 (vM v 565 x4.toNatClampNeg ((v.1 565 x4.toNatClampNeg) - (1 : Int32)))
def p_X12_bears_121  (K48 : Int32 → Int32 → Int32 → gV → Int32 × gV)  (PK48 : Int32 → Int32 → Int32 → gV → Prop)  (x1 : Int32) (x2 : Int32) (x3 : Int32) (x4 : Int32) (v : gV) : Prop := (vp_in x4 4) ∧ ((vp_in x4 4) ∧ (p_X12_bears_132 K48 PK48 x1 x2 x3 (vM v 565 x4.toNatClampNeg ((v.1 565 x4.toNatClampNeg) - (1 : Int32)))))
set_option maxHeartbeats 4000000 in
set_option maxRecDepth 100000 in
theorem w_X12_bears_121 {E : gE} {d : Nat} {Q : gO → gS → Prop}   (hd : 2 ≤ d) (K48 : Int32 → Int32 → Int32 → gV → Int32 × gV)  (PK48 : Int32 → Int32 → Int32 → gV → Prop)  (hK48 : ∀ (x1 : Int32) (x2 : Int32) (x3 : Int32) (v : gV), PK48 x1 x2 x3 v → gqIV Q (K48 x1 x2 x3 v) → gG E m_X12_bears d Q 0 0 (rS v) 48 [(0, .ref (gX E + 559)), (1, .int x1), (2, .int x2), (3, .int x3)] [])  (x1 : Int32) (x2 : Int32) (x3 : Int32) (x4 : Int32) (v : gV) (hp : p_X12_bears_121 K48 PK48 x1 x2 x3 x4 v) (hQ : gqIV Q (f_X12_bears_121 K48 x1 x2 x3 x4 v)) : gG E m_X12_bears d Q 0 0 (rS v) 121 [(0, .ref (gX E + 559)), (1, .int x1), (2, .int x2), (3, .int x3), (4, .int x4)] [] := by
  refine g_aload_n 0 dX12_bears_121 rfl ?_
  refine r_get (.ref (gX E + 565)) f_X12_25_X12 rfl (by decide : kd 559 = (0, 9)) (show 559 < 572 by decide) dX12_bears_122 (fun _ => rfl) ?_
  refine g_iload 4 dX12_bears_125 rfl ?_
  refine g_dup2 dX12_bears_127 rfl rfl ?_
  obtain ⟨h13, hp⟩ := hp
  refine g_iald (by decide : kd 565 = (1, 4)) (show 565 < 572 by decide) h13 dX12_bears_128 ?_
  refine g_iconst dX12_bears_129 (1 : Int32) (by decide) ?_
  refine g_isub dX12_bears_130 ?_
  obtain ⟨h14, hp⟩ := hp
  refine r_iast (by decide : kd 565 = (1, 4)) (show 565 < 572 by decide) h14 dX12_bears_131 ?_
  refine g_lv (lv' := [(0, .ref (gX E + 559)), (1, .int x1), (2, .int x2), (3, .int x3)]) [0, 1, 2, 3] rfl ?_
  exact w_X12_bears_132  hd K48 PK48 hK48 x1 x2 x3 (vM v 565 x4.toNatClampNeg ((v.1 565 x4.toNatClampNeg) - (1 : Int32))) hp hQ
def f_X12_bears_56  (K48 : Int32 → Int32 → Int32 → gV → Int32 × gV)  : Nat → Int32 → Int32 → Int32 → Int32 → gV → Int32 × gV
  | 0, _, _, _, _, v => (0, v)
  | n + 1, x1, x2, x3, x4, v => if (v.1 560 (2 : Int32).toNatClampNeg) ≤ x4 then (f_X12_bears_144 K48 x1 x2 x3 v) else (if x3 ≤ (f_X12_t x4 (0 : Int32) v) then (f_X12_bears_138 K48 (fun x1 x2 x3 x4 v => f_X12_bears_56 K48 n x1 x2 x3 x4 v) x1 x2 x3 x4 v) else (if ((f_X12_t x4 (0 : Int32) v) + (f_X12_t x4 (1 : Int32) v)) < x3 then (f_X12_bears_138 K48 (fun x1 x2 x3 x4 v => f_X12_bears_56 K48 n x1 x2 x3 x4 v) x1 x2 x3 x4 v) else (if (v.1 565 x4.toNatClampNeg) = 0 then (f_X12_bears_138 K48 (fun x1 x2 x3 x4 v => f_X12_bears_56 K48 n x1 x2 x3 x4 v) x1 x2 x3 x4 v) else (f_X12_bears_121 K48 x1 x2 x3 x4 (vM v 564 x4.toNatClampNeg ((v.1 564 x4.toNatClampNeg) + (1 : Int32)))))))
def p_X12_bears_56  (K48 : Int32 → Int32 → Int32 → gV → Int32 × gV)  (PK48 : Int32 → Int32 → Int32 → gV → Prop)  : Nat → Int32 → Int32 → Int32 → Int32 → gV → Prop
  | 0, _, _, _, _, _ => False
  | n + 1, x1, x2, x3, x4, v => (((v.1 560 (2 : Int32).toNatClampNeg) ≤ x4) → (p_X12_bears_144 K48 PK48 x1 x2 x3 v)) ∧ (¬ ((v.1 560 (2 : Int32).toNatClampNeg) ≤ x4) → ((p_X12_t x4 (0 : Int32) v) ∧ (((x3 ≤ (f_X12_t x4 (0 : Int32) v)) → (p_X12_bears_138 K48 (fun x1 x2 x3 x4 v => f_X12_bears_56 K48 n x1 x2 x3 x4 v) PK48 (fun x1 x2 x3 x4 v => p_X12_bears_56 K48 PK48 n x1 x2 x3 x4 v) x1 x2 x3 x4 v)) ∧ (¬ (x3 ≤ (f_X12_t x4 (0 : Int32) v)) → ((p_X12_t x4 (0 : Int32) v) ∧ ((p_X12_t x4 (1 : Int32) v) ∧ (((((f_X12_t x4 (0 : Int32) v) + (f_X12_t x4 (1 : Int32) v)) < x3) → (p_X12_bears_138 K48 (fun x1 x2 x3 x4 v => f_X12_bears_56 K48 n x1 x2 x3 x4 v) PK48 (fun x1 x2 x3 x4 v => p_X12_bears_56 K48 PK48 n x1 x2 x3 x4 v) x1 x2 x3 x4 v)) ∧ (¬ (((f_X12_t x4 (0 : Int32) v) + (f_X12_t x4 (1 : Int32) v)) < x3) → ((vp_in x4 4) ∧ ((((v.1 565 x4.toNatClampNeg) = 0) → (p_X12_bears_138 K48 (fun x1 x2 x3 x4 v => f_X12_bears_56 K48 n x1 x2 x3 x4 v) PK48 (fun x1 x2 x3 x4 v => p_X12_bears_56 K48 PK48 n x1 x2 x3 x4 v) x1 x2 x3 x4 v)) ∧ (¬ ((v.1 565 x4.toNatClampNeg) = 0) → ((vp_in x4 4) ∧ ((vp_in x4 4) ∧ (p_X12_bears_121 K48 PK48 x1 x2 x3 x4 (vM v 564 x4.toNatClampNeg ((v.1 564 x4.toNatClampNeg) + (1 : Int32)))))))))))))))))
set_option maxHeartbeats 4000000 in
set_option maxRecDepth 100000 in
theorem w_X12_bears_56 {E : gE} {d : Nat} {Q : gO → gS → Prop}   (hd : 2 ≤ d) (K48 : Int32 → Int32 → Int32 → gV → Int32 × gV)  (PK48 : Int32 → Int32 → Int32 → gV → Prop)  (hK48 : ∀ (x1 : Int32) (x2 : Int32) (x3 : Int32) (v : gV), PK48 x1 x2 x3 v → gqIV Q (K48 x1 x2 x3 v) → gG E m_X12_bears d Q 0 0 (rS v) 48 [(0, .ref (gX E + 559)), (1, .int x1), (2, .int x2), (3, .int x3)] [])  : ∀ (n : Nat) (x1 : Int32) (x2 : Int32) (x3 : Int32) (x4 : Int32) (v : gV), p_X12_bears_56 K48 PK48 n x1 x2 x3 x4 v → gqIV Q (f_X12_bears_56 K48 n x1 x2 x3 x4 v) → gG E m_X12_bears d Q 0 0 (rS v) 56 [(0, .ref (gX E + 559)), (1, .int x1), (2, .int x2), (3, .int x3), (4, .int x4)] [] := by
  intro n
  induction n with
  | zero => intro x1 x2 x3 x4 v hp; exact hp.elim
  | succ n ih =>
    intro x1 x2 x3 x4 v hp hQ
    refine g_iload 4 dX12_bears_56 rfl ?_
    refine g_aload_n 0 dX12_bears_58 rfl ?_
    refine r_get (.ref (gX E + 560)) f_X12_7_X12 rfl (by decide : kd 559 = (0, 9)) (show 559 < 572 by decide) dX12_bears_59 (fun _ => rfl) ?_
    refine g_iconst dX12_bears_62 (2 : Int32) (by decide) ?_
    refine g_iald (by decide : kd 560 = (1, 300)) (show 560 < 572 by decide) (show ¬ (_ ∨ _) by decide) dX12_bears_63 ?_
    refine g_icmp_ge 144 dX12_bears_64 (by decide) (fun h3 => ?_) (fun h3 => ?_)
    · have hQ := qp (P := gqIV Q) h3 hQ
      have hp := hp.1 h3
      refine g_lv (lv' := [(0, .ref (gX E + 559)), (1, .int x1), (2, .int x2), (3, .int x3)]) [0, 1, 2, 3] rfl ?_
      exact w_X12_bears_144  hd K48 PK48 hK48 x1 x2 x3 v hp hQ
    · have hQ := qn (P := gqIV Q) h3 hQ
      have hp := hp.2 h3
      refine g_iload_n 3 dX12_bears_67 rfl ?_
      refine g_aload_n 0 dX12_bears_68 rfl ?_
      refine g_iload 4 dX12_bears_69 rfl ?_
      refine g_iconst dX12_bears_71 (0 : Int32) (by decide) ?_
      obtain ⟨h4, hp⟩ := hp
      refine g_callV (rest := [.int x3]) s_X12_137_X12 rfl (c_X12_t (E := E) (d := d - 1)   (by omega) x4 (0 : Int32) v h4) (by decide : kd 559 = (0, 9)) (show 559 < 572 by decide) rfl rfl (Nat.le_of_ble_eq_true rfl) (by omega) (by decide) (by decide) dX12_bears_72 (adV ?_) axN
      refine g_icmp_le 138 dX12_bears_75 (by decide) (fun h5 => ?_) (fun h5 => ?_)
      · have hQ := qp (P := gqIV Q) h5 hQ
        have hp := hp.1 h5
        exact w_X12_bears_138  hd K48 (fun x1 x2 x3 x4 v => f_X12_bears_56 K48 n x1 x2 x3 x4 v) PK48 (fun x1 x2 x3 x4 v => p_X12_bears_56 K48 PK48 n x1 x2 x3 x4 v) hK48 ih x1 x2 x3 x4 v hp hQ
      · have hQ := qn (P := gqIV Q) h5 hQ
        have hp := hp.2 h5
        refine g_iload_n 3 dX12_bears_78 rfl ?_
        refine g_aload_n 0 dX12_bears_79 rfl ?_
        refine g_iload 4 dX12_bears_80 rfl ?_
        refine g_iconst dX12_bears_82 (0 : Int32) (by decide) ?_
        obtain ⟨h6, hp⟩ := hp
        refine g_callV (rest := [.int x3]) s_X12_137_X12 rfl (c_X12_t (E := E) (d := d - 1)   (by omega) x4 (0 : Int32) v h6) (by decide : kd 559 = (0, 9)) (show 559 < 572 by decide) rfl rfl (Nat.le_of_ble_eq_true rfl) (by omega) (by decide) (by decide) dX12_bears_83 (adV ?_) axN
        refine g_aload_n 0 dX12_bears_86 rfl ?_
        refine g_iload 4 dX12_bears_87 rfl ?_
        refine g_iconst dX12_bears_89 (1 : Int32) (by decide) ?_
        obtain ⟨h7, hp⟩ := hp
        refine g_callV (rest := [.int ((f_X12_t x4 (0 : Int32) v)), .int x3]) s_X12_137_X12 rfl (c_X12_t (E := E) (d := d - 1)   (by omega) x4 (1 : Int32) v h7) (by decide : kd 559 = (0, 9)) (show 559 < 572 by decide) rfl rfl (Nat.le_of_ble_eq_true rfl) (by omega) (by decide) (by decide) dX12_bears_90 (adV ?_) axN
        refine g_iadd dX12_bears_93 ?_
        refine g_icmp_gt 138 dX12_bears_94 (by decide) (fun h8 => ?_) (fun h8 => ?_)
        · have hQ := qp (P := gqIV Q) h8 hQ
          have hp := hp.1 h8
          exact w_X12_bears_138  hd K48 (fun x1 x2 x3 x4 v => f_X12_bears_56 K48 n x1 x2 x3 x4 v) PK48 (fun x1 x2 x3 x4 v => p_X12_bears_56 K48 PK48 n x1 x2 x3 x4 v) hK48 ih x1 x2 x3 x4 v hp hQ
        · have hQ := qn (P := gqIV Q) h8 hQ
          have hp := hp.2 h8
          refine g_aload_n 0 dX12_bears_97 rfl ?_
          refine r_get (.ref (gX E + 565)) f_X12_25_X12 rfl (by decide : kd 559 = (0, 9)) (show 559 < 572 by decide) dX12_bears_98 (fun _ => rfl) ?_
          refine g_iload 4 dX12_bears_101 rfl ?_
          obtain ⟨h9, hp⟩ := hp
          refine g_iald (by decide : kd 565 = (1, 4)) (show 565 < 572 by decide) h9 dX12_bears_103 ?_
          refine g_if_ne 110 dX12_bears_104 (by decide) (fun h10 => ?_) (fun h10 => ?_)
          · have hQ := qn (P := gqIV Q) h10 hQ
            have hp := hp.2 h10
            refine g_aload_n 0 dX12_bears_110 rfl ?_
            refine r_get (.ref (gX E + 564)) f_X12_22_X12 rfl (by decide : kd 559 = (0, 9)) (show 559 < 572 by decide) dX12_bears_111 (fun _ => rfl) ?_
            refine g_iload 4 dX12_bears_114 rfl ?_
            refine g_dup2 dX12_bears_116 rfl rfl ?_
            obtain ⟨h11, hp⟩ := hp
            refine g_iald (by decide : kd 564 = (1, 4)) (show 564 < 572 by decide) h11 dX12_bears_117 ?_
            refine g_iconst dX12_bears_118 (1 : Int32) (by decide) ?_
            refine g_iadd dX12_bears_119 ?_
            obtain ⟨h12, hp⟩ := hp
            refine r_iast (by decide : kd 564 = (1, 4)) (show 564 < 572 by decide) h12 dX12_bears_120 ?_
            exact w_X12_bears_121  hd K48 PK48 hK48 x1 x2 x3 x4 (vM v 564 x4.toNatClampNeg ((v.1 564 x4.toNatClampNeg) + (1 : Int32))) hp hQ
          · have hQ := qp (P := gqIV Q) h10 hQ
            have hp := hp.1 h10
            refine g_goto 138 dX12_bears_107 (by decide) ?_
            exact w_X12_bears_138  hd K48 (fun x1 x2 x3 x4 v => f_X12_bears_56 K48 n x1 x2 x3 x4 v) PK48 (fun x1 x2 x3 x4 v => p_X12_bears_56 K48 PK48 n x1 x2 x3 x4 v) hK48 ih x1 x2 x3 x4 v hp hQ
def f_X12_bears_48  : Nat → Int32 → Int32 → Int32 → gV → Int32 × gV
  | 0, _, _, _, v => (0, v)
  | n + 1, x1, x2, x3, v => if x1 < x3 then ((x2, v)) else (f_X12_bears_56 (fun x1 x2 x3 v => f_X12_bears_48  n x1 x2 x3 v) 5000 x1 x2 x3 (0 : Int32) v)
def p_X12_bears_48  : Nat → Int32 → Int32 → Int32 → gV → Prop
  | 0, _, _, _, _ => False
  | n + 1, x1, x2, x3, v => ((x1 < x3) → (True)) ∧ (¬ (x1 < x3) → (p_X12_bears_56 (fun x1 x2 x3 v => f_X12_bears_48  n x1 x2 x3 v) (fun x1 x2 x3 v => p_X12_bears_48   n x1 x2 x3 v) 5000 x1 x2 x3 (0 : Int32) v))
set_option maxHeartbeats 4000000 in
set_option maxRecDepth 100000 in
theorem w_X12_bears_48 {E : gE} {d : Nat} {Q : gO → gS → Prop}   (hd : 2 ≤ d) : ∀ (n : Nat) (x1 : Int32) (x2 : Int32) (x3 : Int32) (v : gV), p_X12_bears_48   n x1 x2 x3 v → gqIV Q (f_X12_bears_48  n x1 x2 x3 v) → gG E m_X12_bears d Q 0 0 (rS v) 48 [(0, .ref (gX E + 559)), (1, .int x1), (2, .int x2), (3, .int x3)] [] := by
  intro n
  induction n with
  | zero => intro x1 x2 x3 v hp; exact hp.elim
  | succ n ih =>
    intro x1 x2 x3 v hp hQ
    refine g_iload_n 3 dX12_bears_48 rfl ?_
    refine g_iload_n 1 dX12_bears_49 rfl ?_
    refine g_icmp_gt 150 dX12_bears_50 (by decide) (fun h2 => ?_) (fun h2 => ?_)
    · have hQ := qp (P := gqIV Q) h2 hQ
      have hp := hp.1 h2
      refine g_iload_n 2 dX12_bears_150 rfl ?_
      exact g_iret rfl dX12_bears_151 hQ
    · have hQ := qn (P := gqIV Q) h2 hQ
      have hp := hp.2 h2
      refine g_iconst dX12_bears_53 (0 : Int32) (by decide) ?_
      refine g_istore [(4, .int ((0 : Int32))), (0, .ref (gX E + 559)), (1, .int x1), (2, .int x2), (3, .int x3)] dX12_bears_54 (by decide) rfl ?_
      refine g_lv (lv' := [(0, .ref (gX E + 559)), (1, .int x1), (2, .int x2), (3, .int x3), (4, .int ((0 : Int32)))]) [1, 2, 3, 4, 0] rfl ?_
      exact w_X12_bears_56  hd (fun x1 x2 x3 v => f_X12_bears_48  n x1 x2 x3 v) (fun x1 x2 x3 v => p_X12_bears_48   n x1 x2 x3 v) ih 5000 x1 x2 x3 (0 : Int32) v hp hQ
def f_X12_bears_40  (K4 : Int32 → Int32 → Int32 → gV → Int32 × gV)  (x1 : Int32) (x2 : Int32) (x3 : Int32) (v : gV) : Int32 × gV := K4 x1 x2 (x3 + 1) v
def p_X12_bears_40  (K4 : Int32 → Int32 → Int32 → gV → Int32 × gV)  (PK4 : Int32 → Int32 → Int32 → gV → Prop)  (x1 : Int32) (x2 : Int32) (x3 : Int32) (v : gV) : Prop := PK4 x1 x2 (x3 + 1) v
set_option maxHeartbeats 4000000 in
set_option maxRecDepth 100000 in
theorem w_X12_bears_40 {E : gE} {d : Nat} {Q : gO → gS → Prop}   (hd : 2 ≤ d) (K4 : Int32 → Int32 → Int32 → gV → Int32 × gV)  (PK4 : Int32 → Int32 → Int32 → gV → Prop)  (hK4 : ∀ (x1 : Int32) (x2 : Int32) (x3 : Int32) (v : gV), PK4 x1 x2 x3 v → gqIV Q (K4 x1 x2 x3 v) → gG E m_X12_bears d Q 0 0 (rS v) 4 [(0, .ref (gX E + 559)), (1, .int x1), (2, .int x2), (3, .int x3)] [])  (x1 : Int32) (x2 : Int32) (x3 : Int32) (v : gV) (hp : p_X12_bears_40 K4 PK4 x1 x2 x3 v) (hQ : gqIV Q (f_X12_bears_40 K4 x1 x2 x3 v)) : gG E m_X12_bears d Q 0 0 (rS v) 40 [(0, .ref (gX E + 559)), (1, .int x1), (2, .int x2), (3, .int x3)] [] := by
  refine g_iinc 3 (x3 + 1) [(3, .int (x3 + 1)), (0, .ref (gX E + 559)), (1, .int x1), (2, .int x2)] dX12_bears_40 rfl rfl (by decide) rfl ?_
  refine g_goto 4 dX12_bears_43 (by decide) ?_
  refine g_lv (lv' := [(0, .ref (gX E + 559)), (1, .int x1), (2, .int x2), (3, .int (x3 + 1))]) [1, 2, 3, 0] rfl ?_
  exact hK4 x1 x2 (x3 + 1) v hp hQ
def f_X12_bears_39  (K4 : Int32 → Int32 → Int32 → gV → Int32 × gV)  (x1 : Int32) (x2 : Int32) (x3 : Int32) (s0 : Int32) (s1 : Int32) (v : gV) : Int32 × gV := f_X12_bears_40 K4 x1 x2 x3 (vM v 565 s1.toNatClampNeg s0)
def p_X12_bears_39  (K4 : Int32 → Int32 → Int32 → gV → Int32 × gV)  (PK4 : Int32 → Int32 → Int32 → gV → Prop)  (x1 : Int32) (x2 : Int32) (x3 : Int32) (s0 : Int32) (s1 : Int32) (v : gV) : Prop := (vp_in s1 4) ∧ (p_X12_bears_40 K4 PK4 x1 x2 x3 (vM v 565 s1.toNatClampNeg s0))
set_option maxHeartbeats 4000000 in
set_option maxRecDepth 100000 in
theorem w_X12_bears_39 {E : gE} {d : Nat} {Q : gO → gS → Prop}   (hd : 2 ≤ d) (K4 : Int32 → Int32 → Int32 → gV → Int32 × gV)  (PK4 : Int32 → Int32 → Int32 → gV → Prop)  (hK4 : ∀ (x1 : Int32) (x2 : Int32) (x3 : Int32) (v : gV), PK4 x1 x2 x3 v → gqIV Q (K4 x1 x2 x3 v) → gG E m_X12_bears d Q 0 0 (rS v) 4 [(0, .ref (gX E + 559)), (1, .int x1), (2, .int x2), (3, .int x3)] [])  (x1 : Int32) (x2 : Int32) (x3 : Int32) (s0 : Int32) (s1 : Int32) (v : gV) (hp : p_X12_bears_39 K4 PK4 x1 x2 x3 s0 s1 v) (hQ : gqIV Q (f_X12_bears_39 K4 x1 x2 x3 s0 s1 v)) : gG E m_X12_bears d Q 0 0 (rS v) 39 [(0, .ref (gX E + 559)), (1, .int x1), (2, .int x2), (3, .int x3)] [.int s0, .int s1, .ref (gX E + 565)] := by
  obtain ⟨h18, hp⟩ := hp
  refine r_iast (by decide : kd 565 = (1, 4)) (show 565 < 572 by decide) h18 dX12_bears_39 ?_
  exact w_X12_bears_40  hd K4 PK4 hK4 x1 x2 x3 (vM v 565 s1.toNatClampNeg s0) hp hQ
def f_X12_bears_16  (K4 : Int32 → Int32 → Int32 → gV → Int32 × gV)  (x1 : Int32) (x2 : Int32) (x3 : Int32) (v : gV) : Int32 × gV := if (f_X12_isTreaty x3 v) = 0 then (f_X12_bears_39 K4 x1 x2 x3 (0 : Int32) x3 v) else (f_X12_bears_39 K4 x1 x2 x3 (f_X12_t x3 (2 : Int32) v) x3 v)
def p_X12_bears_16  (K4 : Int32 → Int32 → Int32 → gV → Int32 × gV)  (PK4 : Int32 → Int32 → Int32 → gV → Prop)  (x1 : Int32) (x2 : Int32) (x3 : Int32) (v : gV) : Prop := (p_X12_isTreaty x3 v) ∧ ((((f_X12_isTreaty x3 v) = 0) → (p_X12_bears_39 K4 PK4 x1 x2 x3 (0 : Int32) x3 v)) ∧ (¬ ((f_X12_isTreaty x3 v) = 0) → ((p_X12_t x3 (2 : Int32) v) ∧ (p_X12_bears_39 K4 PK4 x1 x2 x3 (f_X12_t x3 (2 : Int32) v) x3 v))))
set_option maxHeartbeats 4000000 in
set_option maxRecDepth 100000 in
theorem w_X12_bears_16 {E : gE} {d : Nat} {Q : gO → gS → Prop}   (hd : 2 ≤ d) (K4 : Int32 → Int32 → Int32 → gV → Int32 × gV)  (PK4 : Int32 → Int32 → Int32 → gV → Prop)  (hK4 : ∀ (x1 : Int32) (x2 : Int32) (x3 : Int32) (v : gV), PK4 x1 x2 x3 v → gqIV Q (K4 x1 x2 x3 v) → gG E m_X12_bears d Q 0 0 (rS v) 4 [(0, .ref (gX E + 559)), (1, .int x1), (2, .int x2), (3, .int x3)] [])  (x1 : Int32) (x2 : Int32) (x3 : Int32) (v : gV) (hp : p_X12_bears_16 K4 PK4 x1 x2 x3 v) (hQ : gqIV Q (f_X12_bears_16 K4 x1 x2 x3 v)) : gG E m_X12_bears d Q 0 0 (rS v) 16 [(0, .ref (gX E + 559)), (1, .int x1), (2, .int x2), (3, .int x3)] [] := by
  refine g_aload_n 0 dX12_bears_16 rfl ?_
  refine r_get (.ref (gX E + 565)) f_X12_25_X12 rfl (by decide : kd 559 = (0, 9)) (show 559 < 572 by decide) dX12_bears_17 (fun _ => rfl) ?_
  refine g_iload_n 3 dX12_bears_20 rfl ?_
  refine g_aload_n 0 dX12_bears_21 rfl ?_
  refine g_iload_n 3 dX12_bears_22 rfl ?_
  obtain ⟨h16, hp⟩ := hp
  refine g_callV (rest := [.int x3, .ref (gX E + 565)]) s_X12_134_X12 rfl (c_X12_isTreaty (E := E) (d := d - 1)   (by omega) x3 v h16) (by decide : kd 559 = (0, 9)) (show 559 < 572 by decide) rfl rfl (Nat.le_of_ble_eq_true rfl) (by omega) (by decide) (by decide) dX12_bears_23 (adV ?_) axN
  refine g_if_eq 38 dX12_bears_26 (by decide) (fun h17 => ?_) (fun h17 => ?_)
  · have hQ := qp (P := gqIV Q) h17 hQ
    have hp := hp.1 h17
    refine g_iconst dX12_bears_38 (0 : Int32) (by decide) ?_
    exact w_X12_bears_39  hd K4 PK4 hK4 x1 x2 x3 (0 : Int32) x3 v hp hQ
  · have hQ := qn (P := gqIV Q) h17 hQ
    have hp := hp.2 h17
    refine g_aload_n 0 dX12_bears_29 rfl ?_
    refine g_iload_n 3 dX12_bears_30 rfl ?_
    refine g_iconst dX12_bears_31 (2 : Int32) (by decide) ?_
    obtain ⟨h19, hp⟩ := hp
    refine g_callV (rest := [.int x3, .ref (gX E + 565)]) s_X12_137_X12 rfl (c_X12_t (E := E) (d := d - 1)   (by omega) x3 (2 : Int32) v h19) (by decide : kd 559 = (0, 9)) (show 559 < 572 by decide) rfl rfl (Nat.le_of_ble_eq_true rfl) (by omega) (by decide) (by decide) dX12_bears_32 (adV ?_) axN
    refine g_goto 39 dX12_bears_35 (by decide) ?_
    exact w_X12_bears_39  hd K4 PK4 hK4 x1 x2 x3 (f_X12_t x3 (2 : Int32) v) x3 v hp hQ
def f_X12_bears_4  : Nat → Int32 → Int32 → Int32 → gV → Int32 × gV
  | 0, _, _, _, v => (0, v)
  | n + 1, x1, x2, x3, v => if (4 : Int32) ≤ x3 then (f_X12_bears_48  5000 x1 x2 (1 : Int32) v) else (f_X12_bears_16 (fun x1 x2 x3 v => f_X12_bears_4  n x1 x2 x3 v) x1 x2 x3 (vM v 564 x3.toNatClampNeg (0 : Int32)))
def p_X12_bears_4  : Nat → Int32 → Int32 → Int32 → gV → Prop
  | 0, _, _, _, _ => False
  | n + 1, x1, x2, x3, v => (((4 : Int32) ≤ x3) → (p_X12_bears_48   5000 x1 x2 (1 : Int32) v)) ∧ (¬ ((4 : Int32) ≤ x3) → ((vp_in x3 4) ∧ (p_X12_bears_16 (fun x1 x2 x3 v => f_X12_bears_4  n x1 x2 x3 v) (fun x1 x2 x3 v => p_X12_bears_4   n x1 x2 x3 v) x1 x2 x3 (vM v 564 x3.toNatClampNeg (0 : Int32)))))
set_option maxHeartbeats 4000000 in
set_option maxRecDepth 100000 in
theorem w_X12_bears_4 {E : gE} {d : Nat} {Q : gO → gS → Prop}   (hd : 2 ≤ d) : ∀ (n : Nat) (x1 : Int32) (x2 : Int32) (x3 : Int32) (v : gV), p_X12_bears_4   n x1 x2 x3 v → gqIV Q (f_X12_bears_4  n x1 x2 x3 v) → gG E m_X12_bears d Q 0 0 (rS v) 4 [(0, .ref (gX E + 559)), (1, .int x1), (2, .int x2), (3, .int x3)] [] := by
  intro n
  induction n with
  | zero => intro x1 x2 x3 v hp; exact hp.elim
  | succ n ih =>
    intro x1 x2 x3 v hp hQ
    refine g_iload_n 3 dX12_bears_4 rfl ?_
    refine g_iconst dX12_bears_5 (4 : Int32) (by decide) ?_
    refine g_icmp_ge 46 dX12_bears_6 (by decide) (fun h1 => ?_) (fun h1 => ?_)
    · have hQ := qp (P := gqIV Q) h1 hQ
      have hp := hp.1 h1
      refine g_iconst dX12_bears_46 (1 : Int32) (by decide) ?_
      refine g_istore_n [(3, .int ((1 : Int32))), (0, .ref (gX E + 559)), (1, .int x1), (2, .int x2)] dX12_bears_47 rfl (by decide) rfl ?_
      refine g_lv (lv' := [(0, .ref (gX E + 559)), (1, .int x1), (2, .int x2), (3, .int ((1 : Int32)))]) [1, 2, 3, 0] rfl ?_
      exact w_X12_bears_48  hd    5000 x1 x2 (1 : Int32) v hp hQ
    · have hQ := qn (P := gqIV Q) h1 hQ
      have hp := hp.2 h1
      refine g_aload_n 0 dX12_bears_9 rfl ?_
      refine r_get (.ref (gX E + 564)) f_X12_22_X12 rfl (by decide : kd 559 = (0, 9)) (show 559 < 572 by decide) dX12_bears_10 (fun _ => rfl) ?_
      refine g_iload_n 3 dX12_bears_13 rfl ?_
      refine g_iconst dX12_bears_14 (0 : Int32) (by decide) ?_
      obtain ⟨h15, hp⟩ := hp
      refine r_iast (by decide : kd 564 = (1, 4)) (show 564 < 572 by decide) h15 dX12_bears_15 ?_
      exact w_X12_bears_16  hd (fun x1 x2 x3 v => f_X12_bears_4  n x1 x2 x3 v) (fun x1 x2 x3 v => p_X12_bears_4   n x1 x2 x3 v) ih x1 x2 x3 (vM v 564 x3.toNatClampNeg (0 : Int32)) hp hQ
def f_X12_bears_0  (x1 : Int32) (v : gV) : Int32 × gV := f_X12_bears_4  5000 x1 (0 : Int32) (0 : Int32) v
def p_X12_bears_0  (x1 : Int32) (v : gV) : Prop := p_X12_bears_4   5000 x1 (0 : Int32) (0 : Int32) v
set_option maxHeartbeats 4000000 in
set_option maxRecDepth 100000 in
theorem w_X12_bears_0 {E : gE} {d : Nat} {Q : gO → gS → Prop}   (hd : 2 ≤ d) (x1 : Int32) (v : gV) (hp : p_X12_bears_0   x1 v) (hQ : gqIV Q (f_X12_bears_0  x1 v)) : gG E m_X12_bears d Q 0 0 (rS v) 0 [(0, .ref (gX E + 559)), (1, .int x1)] [] := by
  refine g_iconst dX12_bears_0 (0 : Int32) (by decide) ?_
  refine g_istore_n [(2, .int ((0 : Int32))), (0, .ref (gX E + 559)), (1, .int x1)] dX12_bears_1 rfl (by decide) rfl ?_
  refine g_iconst dX12_bears_2 (0 : Int32) (by decide) ?_
  refine g_istore_n [(3, .int ((0 : Int32))), (2, .int ((0 : Int32))), (0, .ref (gX E + 559)), (1, .int x1)] dX12_bears_3 rfl (by decide) rfl ?_
  refine g_lv (lv' := [(0, .ref (gX E + 559)), (1, .int x1), (2, .int ((0 : Int32))), (3, .int ((0 : Int32)))]) [2, 3, 1, 0] rfl ?_
  exact w_X12_bears_4  hd    5000 x1 (0 : Int32) (0 : Int32) v hp hQ
def f_X12_bears  (x1 : Int32) (v : gV) : Int32 × gV := f_X12_bears_0 x1 v
def p_X12_bears  (x1 : Int32) (v : gV) : Prop := p_X12_bears_0 x1 v
theorem c_X12_bears {E : gE} {d : Nat}   (hd : 2 ≤ d) (x1 : Int32) (v : gV) (hp : p_X12_bears x1 v) : CT E m_X12_bears d 0 0 [.ref (gX E + 559), .int x1] (rS v) (Cq (.inl (some (.int ((f_X12_bears x1 v).1)))) (f_X12_bears x1 v).2) := CT.of ok_X12_bears rfl (Nat.le_of_ble_eq_true rfl) (w_X12_bears_0  hd x1 v hp ⟨rfl, rfl⟩)
def f_X12_c_0  (x1 : Int32) (x2 : Int32) (v : gV) : Int32 := v.1 560 (((72 : Int32) + ((12 : Int32) * x1)) + x2).toNatClampNeg
def p_X12_c_0  (x1 : Int32) (x2 : Int32) (v : gV) : Prop := (vp_in (((72 : Int32) + ((12 : Int32) * x1)) + x2) 300) ∧ (True)
set_option maxHeartbeats 4000000 in
set_option maxRecDepth 100000 in
theorem w_X12_c_0 {E : gE} {d : Nat} {Q : gO → gS → Prop}   (hd : 0 ≤ d) (x1 : Int32) (x2 : Int32) (v : gV) (hp : p_X12_c_0   x1 x2 v) (hQ : gqI Q v (f_X12_c_0  x1 x2 v)) : gG E m_X12_c d Q 0 0 (rS v) 0 [(0, .ref (gX E + 559)), (1, .int x1), (2, .int x2)] [] := by
  refine g_aload_n 0 dX12_c_0 rfl ?_
  refine r_get (.ref (gX E + 560)) f_X12_7_X12 rfl (by decide : kd 559 = (0, 9)) (show 559 < 572 by decide) dX12_c_1 (fun _ => rfl) ?_
  refine g_bipush dX12_c_4 (72 : Int32) (by decide) ?_
  refine g_bipush dX12_c_6 (12 : Int32) (by decide) ?_
  refine g_iload_n 1 dX12_c_8 rfl ?_
  refine g_imul dX12_c_9 ?_
  refine g_iadd dX12_c_10 ?_
  refine g_iload_n 2 dX12_c_11 rfl ?_
  refine g_iadd dX12_c_12 ?_
  obtain ⟨h1, hp⟩ := hp
  refine g_iald (by decide : kd 560 = (1, 300)) (show 560 < 572 by decide) h1 dX12_c_13 ?_
  exact g_iret rfl dX12_c_14 hQ
def f_X12_c  (x1 : Int32) (x2 : Int32) (v : gV) : Int32 := f_X12_c_0 x1 x2 v
def p_X12_c  (x1 : Int32) (x2 : Int32) (v : gV) : Prop := p_X12_c_0 x1 x2 v
theorem c_X12_c {E : gE} {d : Nat}   (hd : 0 ≤ d) (x1 : Int32) (x2 : Int32) (v : gV) (hp : p_X12_c x1 x2 v) : CT E m_X12_c d 0 0 [.ref (gX E + 559), .int x1, .int x2] (rS v) (Cq (.inl (some (.int (f_X12_c x1 x2 v)))) v) := CT.of ok_X12_c rfl (Nat.le_of_ble_eq_true rfl) (w_X12_c_0  hd x1 x2 v hp ⟨rfl, rfl⟩)
def f_X12_claim_2  : Nat → Int32 → Int32 → gV → Int32
  | 0, _, _, v => 0
  | n + 1, x1, x2, v => if (v.1 560 (1 : Int32).toNatClampNeg) ≤ x2 then ((-1 : Int32)) else (if (f_X12_c x2 (0 : Int32) v) = x1 then x2 else (f_X12_claim_2  n x1 (x2 + 1) v))
def p_X12_claim_2  : Nat → Int32 → Int32 → gV → Prop
  | 0, _, _, _ => False
  | n + 1, x1, x2, v => (((v.1 560 (1 : Int32).toNatClampNeg) ≤ x2) → (True)) ∧ (¬ ((v.1 560 (1 : Int32).toNatClampNeg) ≤ x2) → ((p_X12_c x2 (0 : Int32) v) ∧ ((((f_X12_c x2 (0 : Int32) v) = x1) → (True)) ∧ (¬ ((f_X12_c x2 (0 : Int32) v) = x1) → (p_X12_claim_2   n x1 (x2 + 1) v)))))
set_option maxHeartbeats 4000000 in
set_option maxRecDepth 100000 in
theorem w_X12_claim_2 {E : gE} {d : Nat} {Q : gO → gS → Prop}   (hd : 1 ≤ d) : ∀ (n : Nat) (x1 : Int32) (x2 : Int32) (v : gV), p_X12_claim_2   n x1 x2 v → gqI Q v (f_X12_claim_2  n x1 x2 v) → gG E m_X12_claim d Q 0 0 (rS v) 2 [(0, .ref (gX E + 559)), (1, .int x1), (2, .int x2)] [] := by
  intro n
  induction n with
  | zero => intro x1 x2 v hp; exact hp.elim
  | succ n ih =>
    intro x1 x2 v hp hQ
    refine g_iload_n 2 dX12_claim_2 rfl ?_
    refine g_aload_n 0 dX12_claim_3 rfl ?_
    refine r_get (.ref (gX E + 560)) f_X12_7_X12 rfl (by decide : kd 559 = (0, 9)) (show 559 < 572 by decide) dX12_claim_4 (fun _ => rfl) ?_
    refine g_iconst dX12_claim_7 (1 : Int32) (by decide) ?_
    refine g_iald (by decide : kd 560 = (1, 300)) (show 560 < 572 by decide) (show ¬ (_ ∨ _) by decide) dX12_claim_8 ?_
    refine g_icmp_ge 30 dX12_claim_9 (by decide) (fun h1 => ?_) (fun h1 => ?_)
    · have hQ := qp (P := gqI Q v) h1 hQ
      have hp := hp.1 h1
      refine g_iconst dX12_claim_30 (-1 : Int32) (by decide) ?_
      exact g_iret rfl dX12_claim_31 hQ
    · have hQ := qn (P := gqI Q v) h1 hQ
      have hp := hp.2 h1
      refine g_aload_n 0 dX12_claim_12 rfl ?_
      refine g_iload_n 2 dX12_claim_13 rfl ?_
      refine g_iconst dX12_claim_14 (0 : Int32) (by decide) ?_
      obtain ⟨h2, hp⟩ := hp
      refine g_callV (rest := []) s_X12_104_X12 rfl (c_X12_c (E := E) (d := d - 1)   (by omega) x2 (0 : Int32) v h2) (by decide : kd 559 = (0, 9)) (show 559 < 572 by decide) rfl rfl (Nat.le_of_ble_eq_true rfl) (by omega) (by decide) (by decide) dX12_claim_15 (adV ?_) axN
      refine g_iload_n 1 dX12_claim_18 rfl ?_
      refine g_icmp_ne 24 dX12_claim_19 (by decide) (fun h3 => ?_) (fun h3 => ?_)
      · have hQ := qn (P := gqI Q v) h3 hQ
        have hp := hp.2 h3
        refine g_iinc 2 (x2 + 1) [(2, .int (x2 + 1)), (0, .ref (gX E + 559)), (1, .int x1)] dX12_claim_24 rfl rfl (by decide) rfl ?_
        refine g_goto 2 dX12_claim_27 (by decide) ?_
        refine g_lv (lv' := [(0, .ref (gX E + 559)), (1, .int x1), (2, .int (x2 + 1))]) [1, 2, 0] rfl ?_
        exact ih x1 (x2 + 1) v hp hQ
      · have hQ := qp (P := gqI Q v) h3 hQ
        have hp := hp.1 h3
        refine g_iload_n 2 dX12_claim_22 rfl ?_
        exact g_iret rfl dX12_claim_23 hQ
def f_X12_claim_0  (x1 : Int32) (v : gV) : Int32 := f_X12_claim_2  5000 x1 (0 : Int32) v
def p_X12_claim_0  (x1 : Int32) (v : gV) : Prop := p_X12_claim_2   5000 x1 (0 : Int32) v
set_option maxHeartbeats 4000000 in
set_option maxRecDepth 100000 in
theorem w_X12_claim_0 {E : gE} {d : Nat} {Q : gO → gS → Prop}   (hd : 1 ≤ d) (x1 : Int32) (v : gV) (hp : p_X12_claim_0   x1 v) (hQ : gqI Q v (f_X12_claim_0  x1 v)) : gG E m_X12_claim d Q 0 0 (rS v) 0 [(0, .ref (gX E + 559)), (1, .int x1)] [] := by
  refine g_iconst dX12_claim_0 (0 : Int32) (by decide) ?_
  refine g_istore_n [(2, .int ((0 : Int32))), (0, .ref (gX E + 559)), (1, .int x1)] dX12_claim_1 rfl (by decide) rfl ?_
  refine g_lv (lv' := [(0, .ref (gX E + 559)), (1, .int x1), (2, .int ((0 : Int32)))]) [1, 2, 0] rfl ?_
  exact w_X12_claim_2  hd    5000 x1 (0 : Int32) v hp hQ
def f_X12_claim  (x1 : Int32) (v : gV) : Int32 := f_X12_claim_0 x1 v
def p_X12_claim  (x1 : Int32) (v : gV) : Prop := p_X12_claim_0 x1 v
theorem c_X12_claim {E : gE} {d : Nat}   (hd : 1 ≤ d) (x1 : Int32) (v : gV) (hp : p_X12_claim x1 v) : CT E m_X12_claim d 0 0 [.ref (gX E + 559), .int x1] (rS v) (Cq (.inl (some (.int (f_X12_claim x1 v)))) v) := CT.of ok_X12_claim rfl (Nat.le_of_ble_eq_true rfl) (w_X12_claim_0  hd x1 v hp ⟨rfl, rfl⟩)
def f_X12_borneOf_4  : Nat → Int32 → Int32 → Int32 → gV → Int32
  | 0, _, _, _, v => 0
  | n + 1, x1, x2, x3, v => if (4 : Int32) ≤ x3 then x2 else (f_X12_borneOf_4  n x1 (x2 + (f_X12_c x1 ((6 : Int32) + x3) v)) (x3 + 1) v)
def p_X12_borneOf_4  : Nat → Int32 → Int32 → Int32 → gV → Prop
  | 0, _, _, _, _ => False
  | n + 1, x1, x2, x3, v => (((4 : Int32) ≤ x3) → (True)) ∧ (¬ ((4 : Int32) ≤ x3) → ((p_X12_c x1 ((6 : Int32) + x3) v) ∧ (p_X12_borneOf_4   n x1 (x2 + (f_X12_c x1 ((6 : Int32) + x3) v)) (x3 + 1) v)))
set_option maxHeartbeats 4000000 in
set_option maxRecDepth 100000 in
theorem w_X12_borneOf_4 {E : gE} {d : Nat} {Q : gO → gS → Prop}   (hd : 1 ≤ d) : ∀ (n : Nat) (x1 : Int32) (x2 : Int32) (x3 : Int32) (v : gV), p_X12_borneOf_4   n x1 x2 x3 v → gqI Q v (f_X12_borneOf_4  n x1 x2 x3 v) → gG E m_X12_borneOf d Q 0 0 (rS v) 4 [(0, .ref (gX E + 559)), (1, .int x1), (2, .int x2), (3, .int x3)] [] := by
  intro n
  induction n with
  | zero => intro x1 x2 x3 v hp; exact hp.elim
  | succ n ih =>
    intro x1 x2 x3 v hp hQ
    refine g_iload_n 3 dX12_borneOf_4 rfl ?_
    refine g_iconst dX12_borneOf_5 (4 : Int32) (by decide) ?_
    refine g_icmp_ge 27 dX12_borneOf_6 (by decide) (fun h1 => ?_) (fun h1 => ?_)
    · have hQ := qp (P := gqI Q v) h1 hQ
      have hp := hp.1 h1
      refine g_iload_n 2 dX12_borneOf_27 rfl ?_
      exact g_iret rfl dX12_borneOf_28 hQ
    · have hQ := qn (P := gqI Q v) h1 hQ
      have hp := hp.2 h1
      refine g_iload_n 2 dX12_borneOf_9 rfl ?_
      refine g_aload_n 0 dX12_borneOf_10 rfl ?_
      refine g_iload_n 1 dX12_borneOf_11 rfl ?_
      refine g_bipush dX12_borneOf_12 (6 : Int32) (by decide) ?_
      refine g_iload_n 3 dX12_borneOf_14 rfl ?_
      refine g_iadd dX12_borneOf_15 ?_
      obtain ⟨h2, hp⟩ := hp
      refine g_callV (rest := [.int x2]) s_X12_104_X12 rfl (c_X12_c (E := E) (d := d - 1)   (by omega) x1 ((6 : Int32) + x3) v h2) (by decide : kd 559 = (0, 9)) (show 559 < 572 by decide) rfl rfl (Nat.le_of_ble_eq_true rfl) (by omega) (by decide) (by decide) dX12_borneOf_16 (adV ?_) axN
      refine g_iadd dX12_borneOf_19 ?_
      refine g_istore_n [(2, .int (x2 + (f_X12_c x1 ((6 : Int32) + x3) v))), (0, .ref (gX E + 559)), (1, .int x1), (3, .int x3)] dX12_borneOf_20 rfl (by decide) rfl ?_
      refine g_iinc 3 (x3 + 1) [(3, .int (x3 + 1)), (2, .int (x2 + (f_X12_c x1 ((6 : Int32) + x3) v))), (0, .ref (gX E + 559)), (1, .int x1)] dX12_borneOf_21 rfl rfl (by decide) rfl ?_
      refine g_goto 4 dX12_borneOf_24 (by decide) ?_
      refine g_lv (lv' := [(0, .ref (gX E + 559)), (1, .int x1), (2, .int (x2 + (f_X12_c x1 ((6 : Int32) + x3) v))), (3, .int (x3 + 1))]) [2, 3, 1, 0] rfl ?_
      exact ih x1 (x2 + (f_X12_c x1 ((6 : Int32) + x3) v)) (x3 + 1) v hp hQ
def f_X12_borneOf_0  (x1 : Int32) (v : gV) : Int32 := f_X12_borneOf_4  5000 x1 (0 : Int32) (0 : Int32) v
def p_X12_borneOf_0  (x1 : Int32) (v : gV) : Prop := p_X12_borneOf_4   5000 x1 (0 : Int32) (0 : Int32) v
set_option maxHeartbeats 4000000 in
set_option maxRecDepth 100000 in
theorem w_X12_borneOf_0 {E : gE} {d : Nat} {Q : gO → gS → Prop}   (hd : 1 ≤ d) (x1 : Int32) (v : gV) (hp : p_X12_borneOf_0   x1 v) (hQ : gqI Q v (f_X12_borneOf_0  x1 v)) : gG E m_X12_borneOf d Q 0 0 (rS v) 0 [(0, .ref (gX E + 559)), (1, .int x1)] [] := by
  refine g_iconst dX12_borneOf_0 (0 : Int32) (by decide) ?_
  refine g_istore_n [(2, .int ((0 : Int32))), (0, .ref (gX E + 559)), (1, .int x1)] dX12_borneOf_1 rfl (by decide) rfl ?_
  refine g_iconst dX12_borneOf_2 (0 : Int32) (by decide) ?_
  refine g_istore_n [(3, .int ((0 : Int32))), (2, .int ((0 : Int32))), (0, .ref (gX E + 559)), (1, .int x1)] dX12_borneOf_3 rfl (by decide) rfl ?_
  refine g_lv (lv' := [(0, .ref (gX E + 559)), (1, .int x1), (2, .int ((0 : Int32))), (3, .int ((0 : Int32)))]) [2, 3, 1, 0] rfl ?_
  exact w_X12_borneOf_4  hd    5000 x1 (0 : Int32) (0 : Int32) v hp hQ
def f_X12_borneOf  (x1 : Int32) (v : gV) : Int32 := f_X12_borneOf_0 x1 v
def p_X12_borneOf  (x1 : Int32) (v : gV) : Prop := p_X12_borneOf_0 x1 v
theorem c_X12_borneOf {E : gE} {d : Nat}   (hd : 1 ≤ d) (x1 : Int32) (v : gV) (hp : p_X12_borneOf x1 v) : CT E m_X12_borneOf d 0 0 [.ref (gX E + 559), .int x1] (rS v) (Cq (.inl (some (.int (f_X12_borneOf x1 v)))) v) := CT.of ok_X12_borneOf rfl (Nat.le_of_ble_eq_true rfl) (w_X12_borneOf_0  hd x1 v hp ⟨rfl, rfl⟩)
def f_X12_recoveredOf_0  (x1 : Int32) (v : gV) : Int32 := ((f_X12_borneOf x1 v) * (f_X12_c x1 (4 : Int32) v)) / (f_X12_c x1 (3 : Int32) v)
def p_X12_recoveredOf_0  (x1 : Int32) (v : gV) : Prop := (p_X12_borneOf x1 v) ∧ ((p_X12_c x1 (4 : Int32) v) ∧ ((p_X12_c x1 (3 : Int32) v) ∧ ((¬ (f_X12_c x1 (3 : Int32) v) = 0) ∧ (True))))
set_option maxHeartbeats 4000000 in
set_option maxRecDepth 100000 in
theorem w_X12_recoveredOf_0 {E : gE} {d : Nat} {Q : gO → gS → Prop}   (hd : 2 ≤ d) (x1 : Int32) (v : gV) (hp : p_X12_recoveredOf_0   x1 v) (hQ : gqI Q v (f_X12_recoveredOf_0  x1 v)) : gG E m_X12_recoveredOf d Q 0 0 (rS v) 0 [(0, .ref (gX E + 559)), (1, .int x1)] [] := by
  refine g_aload_n 0 dX12_recoveredOf_0 rfl ?_
  refine g_iload_n 1 dX12_recoveredOf_1 rfl ?_
  obtain ⟨h1, hp⟩ := hp
  refine g_callV (rest := []) s_X12_146_X12 rfl (c_X12_borneOf (E := E) (d := d - 1)   (by omega) x1 v h1) (by decide : kd 559 = (0, 9)) (show 559 < 572 by decide) rfl rfl (Nat.le_of_ble_eq_true rfl) (by omega) (by decide) (by decide) dX12_recoveredOf_2 (adV ?_) axN
  refine g_aload_n 0 dX12_recoveredOf_5 rfl ?_
  refine g_iload_n 1 dX12_recoveredOf_6 rfl ?_
  refine g_iconst dX12_recoveredOf_7 (4 : Int32) (by decide) ?_
  obtain ⟨h2, hp⟩ := hp
  refine g_callV (rest := [.int ((f_X12_borneOf x1 v))]) s_X12_104_X12 rfl (c_X12_c (E := E) (d := d - 1)   (by omega) x1 (4 : Int32) v h2) (by decide : kd 559 = (0, 9)) (show 559 < 572 by decide) rfl rfl (Nat.le_of_ble_eq_true rfl) (by omega) (by decide) (by decide) dX12_recoveredOf_8 (adV ?_) axN
  refine g_imul dX12_recoveredOf_11 ?_
  refine g_aload_n 0 dX12_recoveredOf_12 rfl ?_
  refine g_iload_n 1 dX12_recoveredOf_13 rfl ?_
  refine g_iconst dX12_recoveredOf_14 (3 : Int32) (by decide) ?_
  obtain ⟨h3, hp⟩ := hp
  refine g_callV (rest := [.int ((f_X12_borneOf x1 v) * (f_X12_c x1 (4 : Int32) v))]) s_X12_104_X12 rfl (c_X12_c (E := E) (d := d - 1)   (by omega) x1 (3 : Int32) v h3) (by decide : kd 559 = (0, 9)) (show 559 < 572 by decide) rfl rfl (Nat.le_of_ble_eq_true rfl) (by omega) (by decide) (by decide) dX12_recoveredOf_15 (adV ?_) axN
  obtain ⟨h4, hp⟩ := hp
  refine g_idiv dX12_recoveredOf_18 h4 ?_
  exact g_iret rfl dX12_recoveredOf_19 hQ
def f_X12_recoveredOf  (x1 : Int32) (v : gV) : Int32 := f_X12_recoveredOf_0 x1 v
def p_X12_recoveredOf  (x1 : Int32) (v : gV) : Prop := p_X12_recoveredOf_0 x1 v
theorem c_X12_recoveredOf {E : gE} {d : Nat}   (hd : 2 ≤ d) (x1 : Int32) (v : gV) (hp : p_X12_recoveredOf x1 v) : CT E m_X12_recoveredOf d 0 0 [.ref (gX E + 559), .int x1] (rS v) (Cq (.inl (some (.int (f_X12_recoveredOf x1 v)))) v) := CT.of ok_X12_recoveredOf rfl (Nat.le_of_ble_eq_true rfl) (w_X12_recoveredOf_0  hd x1 v hp ⟨rfl, rfl⟩)
def f_X12_isCause_29  (s0 : Int32) (v : gV) : Int32 := s0
def p_X12_isCause_29  (s0 : Int32) (v : gV) : Prop := (s0 = 0 ∨ s0 = 1) ∧ (True)
set_option maxHeartbeats 4000000 in
set_option maxRecDepth 100000 in
theorem w_X12_isCause_29 {E : gE} {d : Nat} {Q : gO → gS → Prop}   (hd : 0 ≤ d) (s0 : Int32) (v : gV) (hp : p_X12_isCause_29   s0 v) (hQ : gqI Q v (f_X12_isCause_29  s0 v)) : gG E m_X12_isCause d Q 0 0 (rS v) 29 [] [.int s0] := by
  obtain ⟨h2, hp⟩ := hp
  exact g_zret rfl (nz h2) dX12_isCause_29 hQ
def f_X12_isCause_24   (v : gV) : Int32 := f_X12_isCause_29  (1 : Int32) v
def p_X12_isCause_24   (v : gV) : Prop := p_X12_isCause_29   (1 : Int32) v
set_option maxHeartbeats 4000000 in
set_option maxRecDepth 100000 in
theorem w_X12_isCause_24 {E : gE} {d : Nat} {Q : gO → gS → Prop}   (hd : 0 ≤ d)  (v : gV) (hp : p_X12_isCause_24    v) (hQ : gqI Q v (f_X12_isCause_24   v)) : gG E m_X12_isCause d Q 0 0 (rS v) 24 [] [] := by
  refine g_iconst dX12_isCause_24 (1 : Int32) (by decide) ?_
  refine g_goto 29 dX12_isCause_25 (by decide) ?_
  exact w_X12_isCause_29  hd    (1 : Int32) v hp hQ
def f_X12_isCause_0  (x0 : Int32) (v : gV) : Int32 := if x0 = (114 : Int32) then (f_X12_isCause_24   v) else (if x0 = (103 : Int32) then (f_X12_isCause_24   v) else (if x0 = (119 : Int32) then (f_X12_isCause_24   v) else (if x0 = (102 : Int32) then (f_X12_isCause_24   v) else (f_X12_isCause_29  (0 : Int32) v))))
def p_X12_isCause_0  (x0 : Int32) (v : gV) : Prop := ((x0 = (114 : Int32)) → (p_X12_isCause_24    v)) ∧ (¬ (x0 = (114 : Int32)) → (((x0 = (103 : Int32)) → (p_X12_isCause_24    v)) ∧ (¬ (x0 = (103 : Int32)) → (((x0 = (119 : Int32)) → (p_X12_isCause_24    v)) ∧ (¬ (x0 = (119 : Int32)) → (((x0 = (102 : Int32)) → (p_X12_isCause_24    v)) ∧ (¬ (x0 = (102 : Int32)) → (p_X12_isCause_29   (0 : Int32) v))))))))
set_option maxHeartbeats 4000000 in
set_option maxRecDepth 100000 in
theorem w_X12_isCause_0 {E : gE} {d : Nat} {Q : gO → gS → Prop}   (hd : 0 ≤ d) (x0 : Int32) (v : gV) (hp : p_X12_isCause_0   x0 v) (hQ : gqI Q v (f_X12_isCause_0  x0 v)) : gG E m_X12_isCause d Q 0 0 (rS v) 0 [(0, .int x0)] [] := by
  refine g_iload_n 0 dX12_isCause_0 rfl ?_
  refine g_bipush dX12_isCause_1 (114 : Int32) (by decide) ?_
  refine g_icmp_eq 24 dX12_isCause_3 (by decide) (fun h1 => ?_) (fun h1 => ?_)
  · have hQ := qp (P := gqI Q v) h1 hQ
    have hp := hp.1 h1
    refine g_lv (lv' := []) [] rfl ?_
    exact w_X12_isCause_24  hd     v hp hQ
  · have hQ := qn (P := gqI Q v) h1 hQ
    have hp := hp.2 h1
    refine g_iload_n 0 dX12_isCause_6 rfl ?_
    refine g_bipush dX12_isCause_7 (103 : Int32) (by decide) ?_
    refine g_icmp_eq 24 dX12_isCause_9 (by decide) (fun h3 => ?_) (fun h3 => ?_)
    · have hQ := qp (P := gqI Q v) h3 hQ
      have hp := hp.1 h3
      refine g_lv (lv' := []) [] rfl ?_
      exact w_X12_isCause_24  hd     v hp hQ
    · have hQ := qn (P := gqI Q v) h3 hQ
      have hp := hp.2 h3
      refine g_iload_n 0 dX12_isCause_12 rfl ?_
      refine g_bipush dX12_isCause_13 (119 : Int32) (by decide) ?_
      refine g_icmp_eq 24 dX12_isCause_15 (by decide) (fun h4 => ?_) (fun h4 => ?_)
      · have hQ := qp (P := gqI Q v) h4 hQ
        have hp := hp.1 h4
        refine g_lv (lv' := []) [] rfl ?_
        exact w_X12_isCause_24  hd     v hp hQ
      · have hQ := qn (P := gqI Q v) h4 hQ
        have hp := hp.2 h4
        refine g_iload_n 0 dX12_isCause_18 rfl ?_
        refine g_bipush dX12_isCause_19 (102 : Int32) (by decide) ?_
        refine g_icmp_ne 28 dX12_isCause_21 (by decide) (fun h5 => ?_) (fun h5 => ?_)
        · have hQ := qn (P := gqI Q v) h5 hQ
          have hp := hp.2 h5
          refine g_iconst dX12_isCause_28 (0 : Int32) (by decide) ?_
          refine g_lv (lv' := []) [] rfl ?_
          exact w_X12_isCause_29  hd    (0 : Int32) v hp hQ
        · have hQ := qp (P := gqI Q v) h5 hQ
          have hp := hp.1 h5
          refine g_lv (lv' := []) [] rfl ?_
          exact w_X12_isCause_24  hd     v hp hQ
def f_X12_isCause  (x0 : Int32) (v : gV) : Int32 := f_X12_isCause_0 x0 v
def p_X12_isCause  (x0 : Int32) (v : gV) : Prop := p_X12_isCause_0 x0 v
theorem c_X12_isCause {E : gE} {d : Nat}   (hd : 0 ≤ d) (x0 : Int32) (v : gV) (hp : p_X12_isCause x0 v) : CT E m_X12_isCause d 0 0 [.int x0] (rS v) (Cq (.inl (some (.int (f_X12_isCause x0 v)))) v) := CT.of ok_X12_isCause rfl (Nat.le_of_ble_eq_true rfl) (w_X12_isCause_0  hd x0 v hp ⟨rfl, rfl⟩)
def f_X12_deductible_0  (x0 : Int32) (x1 : Int32) (v : gV) : Int32 := if x0 = 103 then ((2 : Int32)) else (if x0 = 114 then ((0 : Int32)) else (if x0 = 119 then ((x1 + (9 : Int32)) / (10 : Int32)) else ((x1 / (4 : Int32)) + (1 : Int32))))
def p_X12_deductible_0  (x0 : Int32) (x1 : Int32) (v : gV) : Prop := ((x0 = 103) → (True)) ∧ (¬ (x0 = 103) → (((x0 = 114) → (True)) ∧ (¬ (x0 = 114) → (((x0 = 119) → (True)) ∧ (¬ (x0 = 119) → (True))))))
set_option maxHeartbeats 4000000 in
set_option maxRecDepth 100000 in
theorem w_X12_deductible_0 {E : gE} {d : Nat} {Q : gO → gS → Prop}   (hd : 0 ≤ d) (x0 : Int32) (x1 : Int32) (v : gV) (hp : p_X12_deductible_0   x0 x1 v) (hQ : gqI Q v (f_X12_deductible_0  x0 x1 v)) : gG E m_X12_deductible d Q 0 0 (rS v) 0 [(0, .int x0), (1, .int x1)] [] := by
  refine g_iload_n 0 dX12_deductible_0 rfl ?_
  by_cases h1 : x0 = 103
  · have hQ := qp (P := gqI Q v) h1 hQ
    have hp := hp.1 h1
    refine g_lookup 38 dX12_deductible_1 (off := 37) (by decide) (by rw [h1] <;> decide) (by decide) ?_
    refine g_iconst dX12_deductible_38 (2 : Int32) (by decide) ?_
    exact g_iret rfl dX12_deductible_39 hQ
  have hQ := qn (P := gqI Q v) h1 hQ
  have hp := hp.2 h1
  by_cases h2 : x0 = 114
  · have hQ := qp (P := gqI Q v) h2 hQ
    have hp := hp.1 h2
    refine g_lookup 36 dX12_deductible_1 (off := 35) (by decide) (by rw [h2] <;> decide) (by decide) ?_
    refine g_iconst dX12_deductible_36 (0 : Int32) (by decide) ?_
    exact g_iret rfl dX12_deductible_37 hQ
  have hQ := qn (P := gqI Q v) h2 hQ
  have hp := hp.2 h2
  by_cases h3 : x0 = 119
  · have hQ := qp (P := gqI Q v) h3 hQ
    have hp := hp.1 h3
    refine g_lookup 40 dX12_deductible_1 (off := 39) (by decide) (by rw [h3] <;> decide) (by decide) ?_
    refine g_iload_n 1 dX12_deductible_40 rfl ?_
    refine g_bipush dX12_deductible_41 (9 : Int32) (by decide) ?_
    refine g_iadd dX12_deductible_43 ?_
    refine g_bipush dX12_deductible_44 (10 : Int32) (by decide) ?_
    refine g_idiv dX12_deductible_46 (by decide) ?_
    exact g_iret rfl dX12_deductible_47 hQ
  have hQ := qn (P := gqI Q v) h3 hQ
  have hp := hp.2 h3
  refine g_lookup 48 dX12_deductible_1 (by decide) (off := 47) (gsw_lk 47 x0 [(103, 37), (114, 35), (119, 39)] ⟨h1, h2, h3, trivial⟩) (by decide) ?_
  refine g_iload_n 1 dX12_deductible_48 rfl ?_
  refine g_iconst dX12_deductible_49 (4 : Int32) (by decide) ?_
  refine g_idiv dX12_deductible_50 (by decide) ?_
  refine g_iconst dX12_deductible_51 (1 : Int32) (by decide) ?_
  refine g_iadd dX12_deductible_52 ?_
  exact g_iret rfl dX12_deductible_53 hQ
def f_X12_deductible  (x0 : Int32) (x1 : Int32) (v : gV) : Int32 := f_X12_deductible_0 x0 x1 v
def p_X12_deductible  (x0 : Int32) (x1 : Int32) (v : gV) : Prop := p_X12_deductible_0 x0 x1 v
theorem c_X12_deductible {E : gE} {d : Nat}   (hd : 0 ≤ d) (x0 : Int32) (x1 : Int32) (v : gV) (hp : p_X12_deductible x0 x1 v) : CT E m_X12_deductible d 0 0 [.int x0, .int x1] (rS v) (Cq (.inl (some (.int (f_X12_deductible x0 x1 v)))) v) := CT.of ok_X12_deductible rfl (Nat.le_of_ble_eq_true rfl) (w_X12_deductible_0  hd x0 x1 v hp ⟨rfl, rfl⟩)
def f_X12_amountFor_39  (s0 : Int32) (v : gV) : Int32 := s0
def p_X12_amountFor_39  (s0 : Int32) (v : gV) : Prop := True
set_option maxHeartbeats 4000000 in
set_option maxRecDepth 100000 in
theorem w_X12_amountFor_39 {E : gE} {d : Nat} {Q : gO → gS → Prop}   (hd : 1 ≤ d) (s0 : Int32) (v : gV) (hp : p_X12_amountFor_39   s0 v) (hQ : gqI Q v (f_X12_amountFor_39  s0 v)) : gG E m_X12_amountFor d Q 0 0 (rS v) 39 [] [.int s0] := by
  exact g_iret rfl dX12_amountFor_39 hQ
def f_X12_amountFor_0  (x1 : Int32) (x2 : Int32) (x3 : Int32) (v : gV) : Int32 := if (x3 - (f_X12_deductible x2 x3 v)) ≤ ((f_X12_p x1 (1 : Int32) v) - (f_X12_p x1 (6 : Int32) v)) then (f_X12_amountFor_39  (x3 - (f_X12_deductible x2 x3 v)) v) else (f_X12_amountFor_39  ((f_X12_p x1 (1 : Int32) v) - (f_X12_p x1 (6 : Int32) v)) v)
def p_X12_amountFor_0  (x1 : Int32) (x2 : Int32) (x3 : Int32) (v : gV) : Prop := (p_X12_deductible x2 x3 v) ∧ ((p_X12_p x1 (1 : Int32) v) ∧ ((p_X12_p x1 (6 : Int32) v) ∧ ((((x3 - (f_X12_deductible x2 x3 v)) ≤ ((f_X12_p x1 (1 : Int32) v) - (f_X12_p x1 (6 : Int32) v))) → (p_X12_amountFor_39   (x3 - (f_X12_deductible x2 x3 v)) v)) ∧ (¬ ((x3 - (f_X12_deductible x2 x3 v)) ≤ ((f_X12_p x1 (1 : Int32) v) - (f_X12_p x1 (6 : Int32) v))) → (p_X12_amountFor_39   ((f_X12_p x1 (1 : Int32) v) - (f_X12_p x1 (6 : Int32) v)) v)))))
set_option maxHeartbeats 4000000 in
set_option maxRecDepth 100000 in
theorem w_X12_amountFor_0 {E : gE} {d : Nat} {Q : gO → gS → Prop}   (hd : 1 ≤ d) (x1 : Int32) (x2 : Int32) (x3 : Int32) (v : gV) (hp : p_X12_amountFor_0   x1 x2 x3 v) (hQ : gqI Q v (f_X12_amountFor_0  x1 x2 x3 v)) : gG E m_X12_amountFor d Q 0 0 (rS v) 0 [(0, .ref (gX E + 559)), (1, .int x1), (2, .int x2), (3, .int x3)] [] := by
  refine g_iload_n 3 dX12_amountFor_0 rfl ?_
  refine g_iload_n 2 dX12_amountFor_1 rfl ?_
  refine g_iload_n 3 dX12_amountFor_2 rfl ?_
  obtain ⟨h1, hp⟩ := hp
  refine g_callS (rest := [.int x3]) s_X12_149 rfl (c_X12_deductible (E := E) (d := d - 1)   (by omega) x2 x3 v h1) rfl rfl (Nat.le_of_ble_eq_true rfl) (by omega) (by decide) (by decide) dX12_amountFor_3 (adV ?_) axN
  refine g_isub dX12_amountFor_6 ?_
  refine g_istore [(4, .int (x3 - (f_X12_deductible x2 x3 v))), (0, .ref (gX E + 559)), (1, .int x1), (2, .int x2), (3, .int x3)] dX12_amountFor_7 (by decide) rfl ?_
  refine g_aload_n 1 dX12_amountFor_9 rfl ?_
  refine g_iload_n 2 dX12_amountFor_10 rfl ?_
  refine g_iconst dX12_amountFor_11 (1 : Int32) (by decide) ?_
  obtain ⟨h2, hp⟩ := hp
  refine g_callV (rest := []) s_X12_79_X12 rfl (c_X12_p (E := E) (d := d - 1)   (by omega) x1 (1 : Int32) v h2) (by decide : kd 559 = (0, 9)) (show 559 < 572 by decide) rfl rfl (Nat.le_of_ble_eq_true rfl) (by omega) (by decide) (by decide) dX12_amountFor_12 (adV ?_) axN
  refine g_aload_n 1 dX12_amountFor_15 rfl ?_
  refine g_iload_n 2 dX12_amountFor_16 rfl ?_
  refine g_bipush dX12_amountFor_17 (6 : Int32) (by decide) ?_
  obtain ⟨h3, hp⟩ := hp
  refine g_callV (rest := [.int ((f_X12_p x1 (1 : Int32) v))]) s_X12_79_X12 rfl (c_X12_p (E := E) (d := d - 1)   (by omega) x1 (6 : Int32) v h3) (by decide : kd 559 = (0, 9)) (show 559 < 572 by decide) rfl rfl (Nat.le_of_ble_eq_true rfl) (by omega) (by decide) (by decide) dX12_amountFor_19 (adV ?_) axN
  refine g_isub dX12_amountFor_22 ?_
  refine g_istore [(5, .int ((f_X12_p x1 (1 : Int32) v) - (f_X12_p x1 (6 : Int32) v))), (4, .int (x3 - (f_X12_deductible x2 x3 v))), (0, .ref (gX E + 559)), (1, .int x1), (2, .int x2), (3, .int x3)] dX12_amountFor_23 (by decide) rfl ?_
  refine g_iload 1 dX12_amountFor_25 rfl ?_
  refine g_iload 0 dX12_amountFor_27 rfl ?_
  refine g_icmp_le 37 dX12_amountFor_29 (by decide) (fun h4 => ?_) (fun h4 => ?_)
  · have hQ := qp (P := gqI Q v) h4 hQ
    have hp := hp.1 h4
    refine g_iload 1 dX12_amountFor_37 rfl ?_
    refine g_lv (lv' := []) [] rfl ?_
    exact w_X12_amountFor_39  hd    (x3 - (f_X12_deductible x2 x3 v)) v hp hQ
  · have hQ := qn (P := gqI Q v) h4 hQ
    have hp := hp.2 h4
    refine g_iload 0 dX12_amountFor_32 rfl ?_
    refine g_goto 39 dX12_amountFor_34 (by decide) ?_
    refine g_lv (lv' := []) [] rfl ?_
    exact w_X12_amountFor_39  hd    ((f_X12_p x1 (1 : Int32) v) - (f_X12_p x1 (6 : Int32) v)) v hp hQ
def f_X12_amountFor  (x1 : Int32) (x2 : Int32) (x3 : Int32) (v : gV) : Int32 := f_X12_amountFor_0 x1 x2 x3 v
def p_X12_amountFor  (x1 : Int32) (x2 : Int32) (x3 : Int32) (v : gV) : Prop := p_X12_amountFor_0 x1 x2 x3 v
theorem c_X12_amountFor {E : gE} {d : Nat}   (hd : 1 ≤ d) (x1 : Int32) (x2 : Int32) (x3 : Int32) (v : gV) (hp : p_X12_amountFor x1 x2 x3 v) : CT E m_X12_amountFor d 0 0 [.ref (gX E + 559), .int x1, .int x2, .int x3] (rS v) (Cq (.inl (some (.int (f_X12_amountFor x1 x2 x3 v)))) v) := CT.of ok_X12_amountFor rfl (Nat.le_of_ble_eq_true rfl) (w_X12_amountFor_0  hd x1 x2 x3 v hp ⟨rfl, rfl⟩)
def f_X12_cannotClaim_31   (v : gV) : Int32 := (2 : Int32)
def p_X12_cannotClaim_31   (v : gV) : Prop := True
set_option maxHeartbeats 4000000 in
set_option maxRecDepth 100000 in
theorem w_X12_cannotClaim_31 {E : gE} {d : Nat} {Q : gO → gS → Prop}   (hd : 2 ≤ d)  (v : gV) (hp : p_X12_cannotClaim_31    v) (hQ : gqI Q v (f_X12_cannotClaim_31   v)) : gG E m_X12_cannotClaim d Q 0 0 (rS v) 31 [] [] := by
  refine g_iconst dX12_cannotClaim_31 (2 : Int32) (by decide) ?_
  exact g_iret rfl dX12_cannotClaim_32 hQ
def f_X12_cannotClaim_53   (v : gV) : Int32 := (3 : Int32)
def p_X12_cannotClaim_53   (v : gV) : Prop := True
set_option maxHeartbeats 4000000 in
set_option maxRecDepth 100000 in
theorem w_X12_cannotClaim_53 {E : gE} {d : Nat} {Q : gO → gS → Prop}   (hd : 2 ≤ d)  (v : gV) (hp : p_X12_cannotClaim_53    v) (hQ : gqI Q v (f_X12_cannotClaim_53   v)) : gG E m_X12_cannotClaim d Q 0 0 (rS v) 53 [] [] := by
  refine g_iconst dX12_cannotClaim_53 (3 : Int32) (by decide) ?_
  exact g_iret rfl dX12_cannotClaim_54 hQ
def f_X12_cannotClaim_71  (s0 : Int32) (v : gV) : Int32 := s0
def p_X12_cannotClaim_71  (s0 : Int32) (v : gV) : Prop := True
set_option maxHeartbeats 4000000 in
set_option maxRecDepth 100000 in
theorem w_X12_cannotClaim_71 {E : gE} {d : Nat} {Q : gO → gS → Prop}   (hd : 2 ≤ d) (s0 : Int32) (v : gV) (hp : p_X12_cannotClaim_71   s0 v) (hQ : gqI Q v (f_X12_cannotClaim_71  s0 v)) : gG E m_X12_cannotClaim d Q 0 0 (rS v) 71 [] [.int s0] := by
  exact g_iret rfl dX12_cannotClaim_71 hQ
def f_X12_cannotClaim_0  (x1 : Int32) (x2 : Int32) (x3 : Int32) (v : gV) : Int32 := if 0 ≤ (f_X12_policy x1 v) then (if (f_X12_isCause x2 v) = 0 then (f_X12_cannotClaim_31   v) else (if (f_X12_in x3 (1 : Int32) (99 : Int32) v) = 0 then (f_X12_cannotClaim_31   v) else (if (f_X12_isActiveAt (f_X12_policy x1 v) v) = 0 then (f_X12_cannotClaim_53   v) else (if (v.1 560 (1 : Int32).toNatClampNeg) = (12 : Int32) then (f_X12_cannotClaim_53   v) else (if 0 < (f_X12_amountFor (f_X12_policy x1 v) x2 x3 v) then (f_X12_cannotClaim_71  (0 : Int32) v) else (f_X12_cannotClaim_71  (4 : Int32) v)))))) else ((1 : Int32))
def p_X12_cannotClaim_0  (x1 : Int32) (x2 : Int32) (x3 : Int32) (v : gV) : Prop := (p_X12_policy x1 v) ∧ (((0 ≤ (f_X12_policy x1 v)) → ((p_X12_isCause x2 v) ∧ ((((f_X12_isCause x2 v) = 0) → (p_X12_cannotClaim_31    v)) ∧ (¬ ((f_X12_isCause x2 v) = 0) → ((p_X12_in x3 (1 : Int32) (99 : Int32) v) ∧ ((((f_X12_in x3 (1 : Int32) (99 : Int32) v) = 0) → (p_X12_cannotClaim_31    v)) ∧ (¬ ((f_X12_in x3 (1 : Int32) (99 : Int32) v) = 0) → ((p_X12_isActiveAt (f_X12_policy x1 v) v) ∧ ((((f_X12_isActiveAt (f_X12_policy x1 v) v) = 0) → (p_X12_cannotClaim_53    v)) ∧ (¬ ((f_X12_isActiveAt (f_X12_policy x1 v) v) = 0) → ((((v.1 560 (1 : Int32).toNatClampNeg) = (12 : Int32)) → (p_X12_cannotClaim_53    v)) ∧ (¬ ((v.1 560 (1 : Int32).toNatClampNeg) = (12 : Int32)) → ((p_X12_amountFor (f_X12_policy x1 v) x2 x3 v) ∧ (((0 < (f_X12_amountFor (f_X12_policy x1 v) x2 x3 v)) → (p_X12_cannotClaim_71   (0 : Int32) v)) ∧ (¬ (0 < (f_X12_amountFor (f_X12_policy x1 v) x2 x3 v)) → (p_X12_cannotClaim_71   (4 : Int32) v)))))))))))))))) ∧ (¬ (0 ≤ (f_X12_policy x1 v)) → (True)))
set_option maxHeartbeats 4000000 in
set_option maxRecDepth 100000 in
theorem w_X12_cannotClaim_0 {E : gE} {d : Nat} {Q : gO → gS → Prop}   (hd : 2 ≤ d) (x1 : Int32) (x2 : Int32) (x3 : Int32) (v : gV) (hp : p_X12_cannotClaim_0   x1 x2 x3 v) (hQ : gqI Q v (f_X12_cannotClaim_0  x1 x2 x3 v)) : gG E m_X12_cannotClaim d Q 0 0 (rS v) 0 [(0, .ref (gX E + 559)), (1, .int x1), (2, .int x2), (3, .int x3)] [] := by
  refine g_aload_n 0 dX12_cannotClaim_0 rfl ?_
  refine g_iload_n 1 dX12_cannotClaim_1 rfl ?_
  obtain ⟨h1, hp⟩ := hp
  refine g_callV (rest := []) s_X12_107_X12 rfl (c_X12_policy (E := E) (d := d - 1)   (by omega) x1 v h1) (by decide : kd 559 = (0, 9)) (show 559 < 572 by decide) rfl rfl (Nat.le_of_ble_eq_true rfl) (by omega) (by decide) (by decide) dX12_cannotClaim_2 (adV ?_) axN
  refine g_istore [(4, .int ((f_X12_policy x1 v))), (0, .ref (gX E + 559)), (1, .int x1), (2, .int x2), (3, .int x3)] dX12_cannotClaim_5 (by decide) rfl ?_
  refine g_iload 0 dX12_cannotClaim_7 rfl ?_
  refine g_if_ge 14 dX12_cannotClaim_9 (by decide) (fun h2 => ?_) (fun h2 => ?_)
  · have hQ := qp (P := gqI Q v) h2 hQ
    have hp := hp.1 h2
    refine g_iload_n 3 dX12_cannotClaim_14 rfl ?_
    obtain ⟨h3, hp⟩ := hp
    refine g_callS (rest := []) s_X12_152 rfl (c_X12_isCause (E := E) (d := d - 1)   (by omega) x2 v h3) rfl rfl (Nat.le_of_ble_eq_true rfl) (by omega) (by decide) (by decide) dX12_cannotClaim_15 (adV ?_) axN
    refine g_if_eq 31 dX12_cannotClaim_18 (by decide) (fun h4 => ?_) (fun h4 => ?_)
    · have hQ := qp (P := gqI Q v) h4 hQ
      have hp := hp.1 h4
      refine g_lv (lv' := []) [] rfl ?_
      exact w_X12_cannotClaim_31  hd     v hp hQ
    · have hQ := qn (P := gqI Q v) h4 hQ
      have hp := hp.2 h4
      refine g_iload_n 4 dX12_cannotClaim_21 rfl ?_
      refine g_iconst dX12_cannotClaim_22 (1 : Int32) (by decide) ?_
      refine g_bipush dX12_cannotClaim_23 (99 : Int32) (by decide) ?_
      obtain ⟨h5, hp⟩ := hp
      refine g_callS (rest := []) s_X12_83 rfl (c_X12_in (E := E) (d := d - 1)   (by omega) x3 (1 : Int32) (99 : Int32) v h5) rfl rfl (Nat.le_of_ble_eq_true rfl) (by omega) (by decide) (by decide) dX12_cannotClaim_25 (adV ?_) axN
      refine g_if_ne 33 dX12_cannotClaim_28 (by decide) (fun h6 => ?_) (fun h6 => ?_)
      · have hQ := qn (P := gqI Q v) h6 hQ
        have hp := hp.2 h6
        refine g_aload_n 1 dX12_cannotClaim_33 rfl ?_
        refine g_iload 0 dX12_cannotClaim_34 rfl ?_
        obtain ⟨h7, hp⟩ := hp
        refine g_callV (rest := []) s_X12_114_X12 rfl (c_X12_isActiveAt (E := E) (d := d - 1)   (by omega) (f_X12_policy x1 v) v h7) (by decide : kd 559 = (0, 9)) (show 559 < 572 by decide) rfl rfl (Nat.le_of_ble_eq_true rfl) (by omega) (by decide) (by decide) dX12_cannotClaim_36 (adV ?_) axN
        refine g_if_eq 53 dX12_cannotClaim_39 (by decide) (fun h8 => ?_) (fun h8 => ?_)
        · have hQ := qp (P := gqI Q v) h8 hQ
          have hp := hp.1 h8
          refine g_lv (lv' := []) [] rfl ?_
          exact w_X12_cannotClaim_53  hd     v hp hQ
        · have hQ := qn (P := gqI Q v) h8 hQ
          have hp := hp.2 h8
          refine g_aload_n 1 dX12_cannotClaim_42 rfl ?_
          refine r_get (.ref (gX E + 560)) f_X12_7_X12 rfl (by decide : kd 559 = (0, 9)) (show 559 < 572 by decide) dX12_cannotClaim_43 (fun _ => rfl) ?_
          refine g_iconst dX12_cannotClaim_46 (1 : Int32) (by decide) ?_
          refine g_iald (by decide : kd 560 = (1, 300)) (show 560 < 572 by decide) (show ¬ (_ ∨ _) by decide) dX12_cannotClaim_47 ?_
          refine g_bipush dX12_cannotClaim_48 (12 : Int32) (by decide) ?_
          refine g_icmp_ne 55 dX12_cannotClaim_50 (by decide) (fun h9 => ?_) (fun h9 => ?_)
          · have hQ := qn (P := gqI Q v) h9 hQ
            have hp := hp.2 h9
            refine g_aload_n 1 dX12_cannotClaim_55 rfl ?_
            refine g_iload 0 dX12_cannotClaim_56 rfl ?_
            refine g_iload_n 3 dX12_cannotClaim_58 rfl ?_
            refine g_iload_n 4 dX12_cannotClaim_59 rfl ?_
            obtain ⟨h10, hp⟩ := hp
            refine g_callV (rest := []) s_X12_155_X12 rfl (c_X12_amountFor (E := E) (d := d - 1)   (by omega) (f_X12_policy x1 v) x2 x3 v h10) (by decide : kd 559 = (0, 9)) (show 559 < 572 by decide) rfl rfl (Nat.le_of_ble_eq_true rfl) (by omega) (by decide) (by decide) dX12_cannotClaim_60 (adV ?_) axN
            refine g_if_gt 70 dX12_cannotClaim_63 (by decide) (fun h11 => ?_) (fun h11 => ?_)
            · have hQ := qp (P := gqI Q v) h11 hQ
              have hp := hp.1 h11
              refine g_iconst dX12_cannotClaim_70 (0 : Int32) (by decide) ?_
              refine g_lv (lv' := []) [] rfl ?_
              exact w_X12_cannotClaim_71  hd    (0 : Int32) v hp hQ
            · have hQ := qn (P := gqI Q v) h11 hQ
              have hp := hp.2 h11
              refine g_iconst dX12_cannotClaim_66 (4 : Int32) (by decide) ?_
              refine g_goto 71 dX12_cannotClaim_67 (by decide) ?_
              refine g_lv (lv' := []) [] rfl ?_
              exact w_X12_cannotClaim_71  hd    (4 : Int32) v hp hQ
          · have hQ := qp (P := gqI Q v) h9 hQ
            have hp := hp.1 h9
            refine g_lv (lv' := []) [] rfl ?_
            exact w_X12_cannotClaim_53  hd     v hp hQ
      · have hQ := qp (P := gqI Q v) h6 hQ
        have hp := hp.1 h6
        refine g_lv (lv' := []) [] rfl ?_
        exact w_X12_cannotClaim_31  hd     v hp hQ
  · have hQ := qn (P := gqI Q v) h2 hQ
    have hp := hp.2 h2
    refine g_iconst dX12_cannotClaim_12 (1 : Int32) (by decide) ?_
    exact g_iret rfl dX12_cannotClaim_13 hQ
def f_X12_cannotClaim  (x1 : Int32) (x2 : Int32) (x3 : Int32) (v : gV) : Int32 := f_X12_cannotClaim_0 x1 x2 x3 v
def p_X12_cannotClaim  (x1 : Int32) (x2 : Int32) (x3 : Int32) (v : gV) : Prop := p_X12_cannotClaim_0 x1 x2 x3 v
theorem c_X12_cannotClaim {E : gE} {d : Nat}   (hd : 2 ≤ d) (x1 : Int32) (x2 : Int32) (x3 : Int32) (v : gV) (hp : p_X12_cannotClaim x1 x2 x3 v) : CT E m_X12_cannotClaim d 0 0 [.ref (gX E + 559), .int x1, .int x2, .int x3] (rS v) (Cq (.inl (some (.int (f_X12_cannotClaim x1 x2 x3 v)))) v) := CT.of ok_X12_cannotClaim rfl (Nat.le_of_ble_eq_true rfl) (w_X12_cannotClaim_0  hd x1 x2 x3 v hp ⟨rfl, rfl⟩)
def f_X12_claims_229   (v : gV) : Int32 × gV := ((v.1 560 (5 : Int32).toNatClampNeg) - (1 : Int32), v)
def p_X12_claims_229   (v : gV) : Prop := True
set_option maxHeartbeats 4000000 in
set_option maxRecDepth 100000 in
theorem w_X12_claims_229 {E : gE} {d : Nat} {Q : gO → gS → Prop}   (hd : 3 ≤ d)  (v : gV) (hp : p_X12_claims_229    v) (hQ : gqIV Q (f_X12_claims_229   v)) : gG E m_X12_claims d Q 0 0 (rS v) 229 [(0, .ref (gX E + 559))] [] := by
  refine g_aload_n 0 dX12_claims_229 rfl ?_
  refine r_get (.ref (gX E + 560)) f_X12_7_X12 rfl (by decide : kd 559 = (0, 9)) (show 559 < 572 by decide) dX12_claims_230 (fun _ => rfl) ?_
  refine g_iconst dX12_claims_233 (5 : Int32) (by decide) ?_
  refine g_iald (by decide : kd 560 = (1, 300)) (show 560 < 572 by decide) (show ¬ (_ ∨ _) by decide) dX12_claims_234 ?_
  refine g_iconst dX12_claims_235 (1 : Int32) (by decide) ?_
  refine g_isub dX12_claims_236 ?_
  exact g_iret rfl dX12_claims_237 hQ
def f_X12_claims_219   (v : gV) : Int32 × gV := f_X12_claims_229   (vM v 560 (5 : Int32).toNatClampNeg ((v.1 560 (5 : Int32).toNatClampNeg) + (1 : Int32)))
def p_X12_claims_219   (v : gV) : Prop := p_X12_claims_229    (vM v 560 (5 : Int32).toNatClampNeg ((v.1 560 (5 : Int32).toNatClampNeg) + (1 : Int32)))
set_option maxHeartbeats 4000000 in
set_option maxRecDepth 100000 in
theorem w_X12_claims_219 {E : gE} {d : Nat} {Q : gO → gS → Prop}   (hd : 3 ≤ d)  (v : gV) (hp : p_X12_claims_219    v) (hQ : gqIV Q (f_X12_claims_219   v)) : gG E m_X12_claims d Q 0 0 (rS v) 219 [(0, .ref (gX E + 559))] [] := by
  refine g_aload_n 0 dX12_claims_219 rfl ?_
  refine r_get (.ref (gX E + 560)) f_X12_7_X12 rfl (by decide : kd 559 = (0, 9)) (show 559 < 572 by decide) dX12_claims_220 (fun _ => rfl) ?_
  refine g_iconst dX12_claims_223 (5 : Int32) (by decide) ?_
  refine g_dup2 dX12_claims_224 rfl rfl ?_
  refine g_iald (by decide : kd 560 = (1, 300)) (show 560 < 572 by decide) (show ¬ (_ ∨ _) by decide) dX12_claims_225 ?_
  refine g_iconst dX12_claims_226 (1 : Int32) (by decide) ?_
  refine g_iadd dX12_claims_227 ?_
  refine r_iast (by decide : kd 560 = (1, 300)) (show 560 < 572 by decide) (show ¬ (_ ∨ _) by decide) dX12_claims_228 ?_
  exact w_X12_claims_229  hd     (vM v 560 (5 : Int32).toNatClampNeg ((v.1 560 (5 : Int32).toNatClampNeg) + (1 : Int32))) hp hQ
def f_X12_claims_209   (v : gV) : Int32 × gV := f_X12_claims_219   (vM v 560 (1 : Int32).toNatClampNeg ((v.1 560 (1 : Int32).toNatClampNeg) + (1 : Int32)))
def p_X12_claims_209   (v : gV) : Prop := p_X12_claims_219    (vM v 560 (1 : Int32).toNatClampNeg ((v.1 560 (1 : Int32).toNatClampNeg) + (1 : Int32)))
set_option maxHeartbeats 4000000 in
set_option maxRecDepth 100000 in
theorem w_X12_claims_209 {E : gE} {d : Nat} {Q : gO → gS → Prop}   (hd : 3 ≤ d)  (v : gV) (hp : p_X12_claims_209    v) (hQ : gqIV Q (f_X12_claims_209   v)) : gG E m_X12_claims d Q 0 0 (rS v) 209 [(0, .ref (gX E + 559))] [] := by
  refine g_aload_n 0 dX12_claims_209 rfl ?_
  refine r_get (.ref (gX E + 560)) f_X12_7_X12 rfl (by decide : kd 559 = (0, 9)) (show 559 < 572 by decide) dX12_claims_210 (fun _ => rfl) ?_
  refine g_iconst dX12_claims_213 (1 : Int32) (by decide) ?_
  refine g_dup2 dX12_claims_214 rfl rfl ?_
  refine g_iald (by decide : kd 560 = (1, 300)) (show 560 < 572 by decide) (show ¬ (_ ∨ _) by decide) dX12_claims_215 ?_
  refine g_iconst dX12_claims_216 (1 : Int32) (by decide) ?_
  refine g_iadd dX12_claims_217 ?_
  refine r_iast (by decide : kd 560 = (1, 300)) (show 560 < 572 by decide) (show ¬ (_ ∨ _) by decide) dX12_claims_218 ?_
  exact w_X12_claims_219  hd     (vM v 560 (1 : Int32).toNatClampNeg ((v.1 560 (1 : Int32).toNatClampNeg) + (1 : Int32))) hp hQ
def f_X12_claims_182  (K149 : Int32 → Int32 → Int32 → gV → Int32 × gV)  (x4 : Int32) (x5 : Int32) (x8 : Int32) (v : gV) : Int32 × gV := K149 x4 x5 (x8 + 1) v
def p_X12_claims_182  (K149 : Int32 → Int32 → Int32 → gV → Int32 × gV)  (PK149 : Int32 → Int32 → Int32 → gV → Prop)  (x4 : Int32) (x5 : Int32) (x8 : Int32) (v : gV) : Prop := PK149 x4 x5 (x8 + 1) v
set_option maxHeartbeats 4000000 in
set_option maxRecDepth 100000 in
theorem w_X12_claims_182 {E : gE} {d : Nat} {Q : gO → gS → Prop}   (hd : 3 ≤ d) (K149 : Int32 → Int32 → Int32 → gV → Int32 × gV)  (PK149 : Int32 → Int32 → Int32 → gV → Prop)  (hK149 : ∀ (x4 : Int32) (x5 : Int32) (x8 : Int32) (v : gV), PK149 x4 x5 x8 v → gqIV Q (K149 x4 x5 x8 v) → gG E m_X12_claims d Q 0 0 (rS v) 149 [(0, .ref (gX E + 559)), (4, .int x4), (5, .int x5), (8, .int x8)] [])  (x4 : Int32) (x5 : Int32) (x8 : Int32) (v : gV) (hp : p_X12_claims_182 K149 PK149 x4 x5 x8 v) (hQ : gqIV Q (f_X12_claims_182 K149 x4 x5 x8 v)) : gG E m_X12_claims d Q 0 0 (rS v) 182 [(0, .ref (gX E + 559)), (4, .int x4), (5, .int x5), (8, .int x8)] [] := by
  refine g_iinc 3 (x8 + 1) [(8, .int (x8 + 1)), (0, .ref (gX E + 559)), (4, .int x4), (5, .int x5)] dX12_claims_182 rfl rfl (by decide) rfl ?_
  refine g_goto 149 dX12_claims_185 (by decide) ?_
  refine g_lv (lv' := [(0, .ref (gX E + 559)), (4, .int x4), (5, .int x5), (8, .int (x8 + 1))]) [1, 2, 3, 0] rfl ?_
  exact hK149 x4 x5 (x8 + 1) v hp hQ
def f_X12_claims_149  : Nat → Int32 → Int32 → Int32 → gV → Int32 × gV
  | 0, _, _, _, v => (0, v)
  | n + 1, x4, x5, x8, v => if (v.1 560 (2 : Int32).toNatClampNeg) ≤ x8 then (f_X12_claims_209   (vM v 560 (((8 : Int32) + ((8 : Int32) * x4)) + (6 : Int32)).toNatClampNeg ((v.1 560 (((8 : Int32) + ((8 : Int32) * x4)) + (6 : Int32)).toNatClampNeg) + x5))) else (f_X12_claims_182 (fun x4 x5 x8 v => f_X12_claims_149  n x4 x5 x8 v) x4 x5 x8 (vM v 560 (((216 : Int32) + ((4 : Int32) * x8)) + (2 : Int32)).toNatClampNeg (v.1 565 x8.toNatClampNeg)))
def p_X12_claims_149  : Nat → Int32 → Int32 → Int32 → gV → Prop
  | 0, _, _, _, _ => False
  | n + 1, x4, x5, x8, v => (((v.1 560 (2 : Int32).toNatClampNeg) ≤ x8) → ((vp_in (((8 : Int32) + ((8 : Int32) * x4)) + (6 : Int32)) 300) ∧ ((vp_in (((8 : Int32) + ((8 : Int32) * x4)) + (6 : Int32)) 300) ∧ (p_X12_claims_209    (vM v 560 (((8 : Int32) + ((8 : Int32) * x4)) + (6 : Int32)).toNatClampNeg ((v.1 560 (((8 : Int32) + ((8 : Int32) * x4)) + (6 : Int32)).toNatClampNeg) + x5)))))) ∧ (¬ ((v.1 560 (2 : Int32).toNatClampNeg) ≤ x8) → ((vp_in x8 4) ∧ ((vp_in (((216 : Int32) + ((4 : Int32) * x8)) + (2 : Int32)) 300) ∧ (p_X12_claims_182 (fun x4 x5 x8 v => f_X12_claims_149  n x4 x5 x8 v) (fun x4 x5 x8 v => p_X12_claims_149   n x4 x5 x8 v) x4 x5 x8 (vM v 560 (((216 : Int32) + ((4 : Int32) * x8)) + (2 : Int32)).toNatClampNeg (v.1 565 x8.toNatClampNeg))))))
set_option maxHeartbeats 4000000 in
set_option maxRecDepth 100000 in
theorem w_X12_claims_149 {E : gE} {d : Nat} {Q : gO → gS → Prop}   (hd : 3 ≤ d) : ∀ (n : Nat) (x4 : Int32) (x5 : Int32) (x8 : Int32) (v : gV), p_X12_claims_149   n x4 x5 x8 v → gqIV Q (f_X12_claims_149  n x4 x5 x8 v) → gG E m_X12_claims d Q 0 0 (rS v) 149 [(0, .ref (gX E + 559)), (4, .int x4), (5, .int x5), (8, .int x8)] [] := by
  intro n
  induction n with
  | zero => intro x4 x5 x8 v hp; exact hp.elim
  | succ n ih =>
    intro x4 x5 x8 v hp hQ
    refine g_iload 3 dX12_claims_149 rfl ?_
    refine g_aload_n 0 dX12_claims_151 rfl ?_
    refine r_get (.ref (gX E + 560)) f_X12_7_X12 rfl (by decide : kd 559 = (0, 9)) (show 559 < 572 by decide) dX12_claims_152 (fun _ => rfl) ?_
    refine g_iconst dX12_claims_155 (2 : Int32) (by decide) ?_
    refine g_iald (by decide : kd 560 = (1, 300)) (show 560 < 572 by decide) (show ¬ (_ ∨ _) by decide) dX12_claims_156 ?_
    refine g_icmp_ge 188 dX12_claims_157 (by decide) (fun h11 => ?_) (fun h11 => ?_)
    · have hQ := qp (P := gqIV Q) h11 hQ
      have hp := hp.1 h11
      refine g_aload_n 0 dX12_claims_188 rfl ?_
      refine r_get (.ref (gX E + 560)) f_X12_7_X12 rfl (by decide : kd 559 = (0, 9)) (show 559 < 572 by decide) dX12_claims_189 (fun _ => rfl) ?_
      refine g_bipush dX12_claims_192 (8 : Int32) (by decide) ?_
      refine g_bipush dX12_claims_194 (8 : Int32) (by decide) ?_
      refine g_iload 1 dX12_claims_196 rfl ?_
      refine g_imul dX12_claims_198 ?_
      refine g_iadd dX12_claims_199 ?_
      refine g_bipush dX12_claims_200 (6 : Int32) (by decide) ?_
      refine g_iadd dX12_claims_202 ?_
      refine g_dup2 dX12_claims_203 rfl rfl ?_
      obtain ⟨h12, hp⟩ := hp
      refine g_iald (by decide : kd 560 = (1, 300)) (show 560 < 572 by decide) h12 dX12_claims_204 ?_
      refine g_iload 2 dX12_claims_205 rfl ?_
      refine g_iadd dX12_claims_207 ?_
      obtain ⟨h13, hp⟩ := hp
      refine r_iast (by decide : kd 560 = (1, 300)) (show 560 < 572 by decide) h13 dX12_claims_208 ?_
      refine g_lv (lv' := [(0, .ref (gX E + 559))]) [0] rfl ?_
      exact w_X12_claims_209  hd     (vM v 560 (((8 : Int32) + ((8 : Int32) * x4)) + (6 : Int32)).toNatClampNeg ((v.1 560 (((8 : Int32) + ((8 : Int32) * x4)) + (6 : Int32)).toNatClampNeg) + x5)) hp hQ
    · have hQ := qn (P := gqIV Q) h11 hQ
      have hp := hp.2 h11
      refine g_aload_n 0 dX12_claims_160 rfl ?_
      refine r_get (.ref (gX E + 560)) f_X12_7_X12 rfl (by decide : kd 559 = (0, 9)) (show 559 < 572 by decide) dX12_claims_161 (fun _ => rfl) ?_
      refine g_sipush dX12_claims_164 (216 : Int32) (by decide) ?_
      refine g_iconst dX12_claims_167 (4 : Int32) (by decide) ?_
      refine g_iload 3 dX12_claims_168 rfl ?_
      refine g_imul dX12_claims_170 ?_
      refine g_iadd dX12_claims_171 ?_
      refine g_iconst dX12_claims_172 (2 : Int32) (by decide) ?_
      refine g_iadd dX12_claims_173 ?_
      refine g_aload_n 0 dX12_claims_174 rfl ?_
      refine r_get (.ref (gX E + 565)) f_X12_25_X12 rfl (by decide : kd 559 = (0, 9)) (show 559 < 572 by decide) dX12_claims_175 (fun _ => rfl) ?_
      refine g_iload 3 dX12_claims_178 rfl ?_
      obtain ⟨h14, hp⟩ := hp
      refine g_iald (by decide : kd 565 = (1, 4)) (show 565 < 572 by decide) h14 dX12_claims_180 ?_
      obtain ⟨h15, hp⟩ := hp
      refine r_iast (by decide : kd 560 = (1, 300)) (show 560 < 572 by decide) h15 dX12_claims_181 ?_
      exact w_X12_claims_182  hd (fun x4 x5 x8 v => f_X12_claims_149  n x4 x5 x8 v) (fun x4 x5 x8 v => p_X12_claims_149   n x4 x5 x8 v) ih x4 x5 x8 (vM v 560 (((216 : Int32) + ((4 : Int32) * x8)) + (2 : Int32)).toNatClampNeg (v.1 565 x8.toNatClampNeg)) hp hQ
def f_X12_claims_140  (K114 : Int32 → Int32 → Int32 → Int32 → gV → Int32 × gV)  (x4 : Int32) (x5 : Int32) (x6 : Int32) (x8 : Int32) (v : gV) : Int32 × gV := K114 x4 x5 x6 (x8 + 1) v
def p_X12_claims_140  (K114 : Int32 → Int32 → Int32 → Int32 → gV → Int32 × gV)  (PK114 : Int32 → Int32 → Int32 → Int32 → gV → Prop)  (x4 : Int32) (x5 : Int32) (x6 : Int32) (x8 : Int32) (v : gV) : Prop := PK114 x4 x5 x6 (x8 + 1) v
set_option maxHeartbeats 4000000 in
set_option maxRecDepth 100000 in
theorem w_X12_claims_140 {E : gE} {d : Nat} {Q : gO → gS → Prop}   (hd : 3 ≤ d) (K114 : Int32 → Int32 → Int32 → Int32 → gV → Int32 × gV)  (PK114 : Int32 → Int32 → Int32 → Int32 → gV → Prop)  (hK114 : ∀ (x4 : Int32) (x5 : Int32) (x6 : Int32) (x8 : Int32) (v : gV), PK114 x4 x5 x6 x8 v → gqIV Q (K114 x4 x5 x6 x8 v) → gG E m_X12_claims d Q 0 0 (rS v) 114 [(0, .ref (gX E + 559)), (4, .int x4), (5, .int x5), (6, .int x6), (8, .int x8)] [])  (x4 : Int32) (x5 : Int32) (x6 : Int32) (x8 : Int32) (v : gV) (hp : p_X12_claims_140 K114 PK114 x4 x5 x6 x8 v) (hQ : gqIV Q (f_X12_claims_140 K114 x4 x5 x6 x8 v)) : gG E m_X12_claims d Q 0 0 (rS v) 140 [(0, .ref (gX E + 559)), (4, .int x4), (5, .int x5), (6, .int x6), (8, .int x8)] [] := by
  refine g_iinc 4 (x8 + 1) [(8, .int (x8 + 1)), (0, .ref (gX E + 559)), (4, .int x4), (5, .int x5), (6, .int x6)] dX12_claims_140 rfl rfl (by decide) rfl ?_
  refine g_goto 114 dX12_claims_143 (by decide) ?_
  refine g_lv (lv' := [(0, .ref (gX E + 559)), (4, .int x4), (5, .int x5), (6, .int x6), (8, .int (x8 + 1))]) [1, 2, 3, 4, 0] rfl ?_
  exact hK114 x4 x5 x6 (x8 + 1) v hp hQ
def f_X12_claims_114  : Nat → Int32 → Int32 → Int32 → Int32 → gV → Int32 × gV
  | 0, _, _, _, _, v => (0, v)
  | n + 1, x4, x5, x6, x8, v => if (4 : Int32) ≤ x8 then (f_X12_claims_149  5000 x4 x5 (0 : Int32) v) else (f_X12_claims_140 (fun x4 x5 x6 x8 v => f_X12_claims_114  n x4 x5 x6 x8 v) x4 x5 x6 x8 (vM v 560 ((x6 + (6 : Int32)) + x8).toNatClampNeg (v.1 564 x8.toNatClampNeg)))
def p_X12_claims_114  : Nat → Int32 → Int32 → Int32 → Int32 → gV → Prop
  | 0, _, _, _, _, _ => False
  | n + 1, x4, x5, x6, x8, v => (((4 : Int32) ≤ x8) → (p_X12_claims_149   5000 x4 x5 (0 : Int32) v)) ∧ (¬ ((4 : Int32) ≤ x8) → ((vp_in x8 4) ∧ ((vp_in ((x6 + (6 : Int32)) + x8) 300) ∧ (p_X12_claims_140 (fun x4 x5 x6 x8 v => f_X12_claims_114  n x4 x5 x6 x8 v) (fun x4 x5 x6 x8 v => p_X12_claims_114   n x4 x5 x6 x8 v) x4 x5 x6 x8 (vM v 560 ((x6 + (6 : Int32)) + x8).toNatClampNeg (v.1 564 x8.toNatClampNeg))))))
set_option maxHeartbeats 4000000 in
set_option maxRecDepth 100000 in
theorem w_X12_claims_114 {E : gE} {d : Nat} {Q : gO → gS → Prop}   (hd : 3 ≤ d) : ∀ (n : Nat) (x4 : Int32) (x5 : Int32) (x6 : Int32) (x8 : Int32) (v : gV), p_X12_claims_114   n x4 x5 x6 x8 v → gqIV Q (f_X12_claims_114  n x4 x5 x6 x8 v) → gG E m_X12_claims d Q 0 0 (rS v) 114 [(0, .ref (gX E + 559)), (4, .int x4), (5, .int x5), (6, .int x6), (8, .int x8)] [] := by
  intro n
  induction n with
  | zero => intro x4 x5 x6 x8 v hp; exact hp.elim
  | succ n ih =>
    intro x4 x5 x6 x8 v hp hQ
    refine g_iload 4 dX12_claims_114 rfl ?_
    refine g_iconst dX12_claims_116 (4 : Int32) (by decide) ?_
    refine g_icmp_ge 146 dX12_claims_117 (by decide) (fun h10 => ?_) (fun h10 => ?_)
    · have hQ := qp (P := gqIV Q) h10 hQ
      have hp := hp.1 h10
      refine g_iconst dX12_claims_146 (0 : Int32) (by decide) ?_
      refine g_istore [(8, .int ((0 : Int32))), (0, .ref (gX E + 559)), (4, .int x4), (5, .int x5), (6, .int x6)] dX12_claims_147 (by decide) rfl ?_
      refine g_lv (lv' := [(0, .ref (gX E + 559)), (4, .int x4), (5, .int x5), (8, .int ((0 : Int32)))]) [1, 2, 3, 0] rfl ?_
      exact w_X12_claims_149  hd    5000 x4 x5 (0 : Int32) v hp hQ
    · have hQ := qn (P := gqIV Q) h10 hQ
      have hp := hp.2 h10
      refine g_aload_n 0 dX12_claims_120 rfl ?_
      refine r_get (.ref (gX E + 560)) f_X12_7_X12 rfl (by decide : kd 559 = (0, 9)) (show 559 < 572 by decide) dX12_claims_121 (fun _ => rfl) ?_
      refine g_iload 3 dX12_claims_124 rfl ?_
      refine g_bipush dX12_claims_126 (6 : Int32) (by decide) ?_
      refine g_iadd dX12_claims_128 ?_
      refine g_iload 4 dX12_claims_129 rfl ?_
      refine g_iadd dX12_claims_131 ?_
      refine g_aload_n 0 dX12_claims_132 rfl ?_
      refine r_get (.ref (gX E + 564)) f_X12_22_X12 rfl (by decide : kd 559 = (0, 9)) (show 559 < 572 by decide) dX12_claims_133 (fun _ => rfl) ?_
      refine g_iload 4 dX12_claims_136 rfl ?_
      obtain ⟨h16, hp⟩ := hp
      refine g_iald (by decide : kd 564 = (1, 4)) (show 564 < 572 by decide) h16 dX12_claims_138 ?_
      obtain ⟨h17, hp⟩ := hp
      refine r_iast (by decide : kd 560 = (1, 300)) (show 560 < 572 by decide) h17 dX12_claims_139 ?_
      exact w_X12_claims_140  hd (fun x4 x5 x6 x8 v => f_X12_claims_114  n x4 x5 x6 x8 v) (fun x4 x5 x6 x8 v => p_X12_claims_114   n x4 x5 x6 x8 v) ih x4 x5 x6 x8 (vM v 560 ((x6 + (6 : Int32)) + x8).toNatClampNeg (v.1 564 x8.toNatClampNeg)) hp hQ
def f_X12_claims_111  (x4 : Int32) (x5 : Int32) (x6 : Int32) (v : gV) : Int32 × gV := f_X12_claims_114  5000 x4 x5 x6 (0 : Int32) v
def p_X12_claims_111  (x4 : Int32) (x5 : Int32) (x6 : Int32) (v : gV) : Prop := p_X12_claims_114   5000 x4 x5 x6 (0 : Int32) v
set_option maxHeartbeats 4000000 in
set_option maxRecDepth 100000 in
theorem w_X12_claims_111 {E : gE} {d : Nat} {Q : gO → gS → Prop}   (hd : 3 ≤ d) (x4 : Int32) (x5 : Int32) (x6 : Int32) (v : gV) (hp : p_X12_claims_111   x4 x5 x6 v) (hQ : gqIV Q (f_X12_claims_111  x4 x5 x6 v)) : gG E m_X12_claims d Q 0 0 (rS v) 111 [(0, .ref (gX E + 559)), (4, .int x4), (5, .int x5), (6, .int x6)] [] := by
  refine g_iconst dX12_claims_111 (0 : Int32) (by decide) ?_
  refine g_istore [(8, .int ((0 : Int32))), (0, .ref (gX E + 559)), (4, .int x4), (5, .int x5), (6, .int x6)] dX12_claims_112 (by decide) rfl ?_
  refine g_lv (lv' := [(0, .ref (gX E + 559)), (4, .int x4), (5, .int x5), (6, .int x6), (8, .int ((0 : Int32)))]) [1, 2, 3, 4, 0] rfl ?_
  exact w_X12_claims_114  hd    5000 x4 x5 x6 (0 : Int32) v hp hQ
def f_X12_claims_95  (x4 : Int32) (x5 : Int32) (x6 : Int32) (v : gV) : Int32 × gV := f_X12_claims_111  x4 x5 x6 (vM v 560 (x6 + (5 : Int32)).toNatClampNeg (v.1 560 (6 : Int32).toNatClampNeg))
def p_X12_claims_95  (x4 : Int32) (x5 : Int32) (x6 : Int32) (v : gV) : Prop := (vp_in (x6 + (5 : Int32)) 300) ∧ (p_X12_claims_111   x4 x5 x6 (vM v 560 (x6 + (5 : Int32)).toNatClampNeg (v.1 560 (6 : Int32).toNatClampNeg)))
set_option maxHeartbeats 4000000 in
set_option maxRecDepth 100000 in
theorem w_X12_claims_95 {E : gE} {d : Nat} {Q : gO → gS → Prop}   (hd : 3 ≤ d) (x4 : Int32) (x5 : Int32) (x6 : Int32) (v : gV) (hp : p_X12_claims_95   x4 x5 x6 v) (hQ : gqIV Q (f_X12_claims_95  x4 x5 x6 v)) : gG E m_X12_claims d Q 0 0 (rS v) 95 [(0, .ref (gX E + 559)), (4, .int x4), (5, .int x5), (6, .int x6)] [] := by
  refine g_aload_n 0 dX12_claims_95 rfl ?_
  refine r_get (.ref (gX E + 560)) f_X12_7_X12 rfl (by decide : kd 559 = (0, 9)) (show 559 < 572 by decide) dX12_claims_96 (fun _ => rfl) ?_
  refine g_iload 3 dX12_claims_99 rfl ?_
  refine g_iconst dX12_claims_101 (5 : Int32) (by decide) ?_
  refine g_iadd dX12_claims_102 ?_
  refine g_aload_n 0 dX12_claims_103 rfl ?_
  refine r_get (.ref (gX E + 560)) f_X12_7_X12 rfl (by decide : kd 559 = (0, 9)) (show 559 < 572 by decide) dX12_claims_104 (fun _ => rfl) ?_
  refine g_bipush dX12_claims_107 (6 : Int32) (by decide) ?_
  refine g_iald (by decide : kd 560 = (1, 300)) (show 560 < 572 by decide) (show ¬ (_ ∨ _) by decide) dX12_claims_109 ?_
  obtain ⟨h9, hp⟩ := hp
  refine r_iast (by decide : kd 560 = (1, 300)) (show 560 < 572 by decide) h9 dX12_claims_110 ?_
  exact w_X12_claims_111  hd    x4 x5 x6 (vM v 560 (x6 + (5 : Int32)).toNatClampNeg (v.1 560 (6 : Int32).toNatClampNeg)) hp hQ
def f_X12_claims_85  (x4 : Int32) (x5 : Int32) (x6 : Int32) (v : gV) : Int32 × gV := f_X12_claims_95  x4 x5 x6 (vM v 560 (x6 + (4 : Int32)).toNatClampNeg (0 : Int32))
def p_X12_claims_85  (x4 : Int32) (x5 : Int32) (x6 : Int32) (v : gV) : Prop := (vp_in (x6 + (4 : Int32)) 300) ∧ (p_X12_claims_95   x4 x5 x6 (vM v 560 (x6 + (4 : Int32)).toNatClampNeg (0 : Int32)))
set_option maxHeartbeats 4000000 in
set_option maxRecDepth 100000 in
theorem w_X12_claims_85 {E : gE} {d : Nat} {Q : gO → gS → Prop}   (hd : 3 ≤ d) (x4 : Int32) (x5 : Int32) (x6 : Int32) (v : gV) (hp : p_X12_claims_85   x4 x5 x6 v) (hQ : gqIV Q (f_X12_claims_85  x4 x5 x6 v)) : gG E m_X12_claims d Q 0 0 (rS v) 85 [(0, .ref (gX E + 559)), (4, .int x4), (5, .int x5), (6, .int x6)] [] := by
  refine g_aload_n 0 dX12_claims_85 rfl ?_
  refine r_get (.ref (gX E + 560)) f_X12_7_X12 rfl (by decide : kd 559 = (0, 9)) (show 559 < 572 by decide) dX12_claims_86 (fun _ => rfl) ?_
  refine g_iload 3 dX12_claims_89 rfl ?_
  refine g_iconst dX12_claims_91 (4 : Int32) (by decide) ?_
  refine g_iadd dX12_claims_92 ?_
  refine g_iconst dX12_claims_93 (0 : Int32) (by decide) ?_
  obtain ⟨h8, hp⟩ := hp
  refine r_iast (by decide : kd 560 = (1, 300)) (show 560 < 572 by decide) h8 dX12_claims_94 ?_
  exact w_X12_claims_95  hd    x4 x5 x6 (vM v 560 (x6 + (4 : Int32)).toNatClampNeg (0 : Int32)) hp hQ
def f_X12_claims_74  (x4 : Int32) (x5 : Int32) (x6 : Int32) (v : gV) : Int32 × gV := f_X12_claims_85  x4 x5 x6 (vM v 560 (x6 + (3 : Int32)).toNatClampNeg x5)
def p_X12_claims_74  (x4 : Int32) (x5 : Int32) (x6 : Int32) (v : gV) : Prop := (vp_in (x6 + (3 : Int32)) 300) ∧ (p_X12_claims_85   x4 x5 x6 (vM v 560 (x6 + (3 : Int32)).toNatClampNeg x5))
set_option maxHeartbeats 4000000 in
set_option maxRecDepth 100000 in
theorem w_X12_claims_74 {E : gE} {d : Nat} {Q : gO → gS → Prop}   (hd : 3 ≤ d) (x4 : Int32) (x5 : Int32) (x6 : Int32) (v : gV) (hp : p_X12_claims_74   x4 x5 x6 v) (hQ : gqIV Q (f_X12_claims_74  x4 x5 x6 v)) : gG E m_X12_claims d Q 0 0 (rS v) 74 [(0, .ref (gX E + 559)), (4, .int x4), (5, .int x5), (6, .int x6)] [] := by
  refine g_aload_n 0 dX12_claims_74 rfl ?_
  refine r_get (.ref (gX E + 560)) f_X12_7_X12 rfl (by decide : kd 559 = (0, 9)) (show 559 < 572 by decide) dX12_claims_75 (fun _ => rfl) ?_
  refine g_iload 3 dX12_claims_78 rfl ?_
  refine g_iconst dX12_claims_80 (3 : Int32) (by decide) ?_
  refine g_iadd dX12_claims_81 ?_
  refine g_iload 2 dX12_claims_82 rfl ?_
  obtain ⟨h7, hp⟩ := hp
  refine r_iast (by decide : kd 560 = (1, 300)) (show 560 < 572 by decide) h7 dX12_claims_84 ?_
  exact w_X12_claims_85  hd    x4 x5 x6 (vM v 560 (x6 + (3 : Int32)).toNatClampNeg x5) hp hQ
def f_X12_claims_64  (x2 : Int32) (x4 : Int32) (x5 : Int32) (x6 : Int32) (v : gV) : Int32 × gV := f_X12_claims_74  x4 x5 x6 (vM v 560 (x6 + (2 : Int32)).toNatClampNeg x2)
def p_X12_claims_64  (x2 : Int32) (x4 : Int32) (x5 : Int32) (x6 : Int32) (v : gV) : Prop := (vp_in (x6 + (2 : Int32)) 300) ∧ (p_X12_claims_74   x4 x5 x6 (vM v 560 (x6 + (2 : Int32)).toNatClampNeg x2))
set_option maxHeartbeats 4000000 in
set_option maxRecDepth 100000 in
theorem w_X12_claims_64 {E : gE} {d : Nat} {Q : gO → gS → Prop}   (hd : 3 ≤ d) (x2 : Int32) (x4 : Int32) (x5 : Int32) (x6 : Int32) (v : gV) (hp : p_X12_claims_64   x2 x4 x5 x6 v) (hQ : gqIV Q (f_X12_claims_64  x2 x4 x5 x6 v)) : gG E m_X12_claims d Q 0 0 (rS v) 64 [(0, .ref (gX E + 559)), (2, .int x2), (4, .int x4), (5, .int x5), (6, .int x6)] [] := by
  refine g_aload_n 0 dX12_claims_64 rfl ?_
  refine r_get (.ref (gX E + 560)) f_X12_7_X12 rfl (by decide : kd 559 = (0, 9)) (show 559 < 572 by decide) dX12_claims_65 (fun _ => rfl) ?_
  refine g_iload 4 dX12_claims_68 rfl ?_
  refine g_iconst dX12_claims_70 (2 : Int32) (by decide) ?_
  refine g_iadd dX12_claims_71 ?_
  refine g_iload_n 1 dX12_claims_72 rfl ?_
  obtain ⟨h6, hp⟩ := hp
  refine r_iast (by decide : kd 560 = (1, 300)) (show 560 < 572 by decide) h6 dX12_claims_73 ?_
  refine g_lv (lv' := [(0, .ref (gX E + 559)), (4, .int x4), (5, .int x5), (6, .int x6)]) [0, 2, 3, 4] rfl ?_
  exact w_X12_claims_74  hd    x4 x5 x6 (vM v 560 (x6 + (2 : Int32)).toNatClampNeg x2) hp hQ
def f_X12_claims_54  (x1 : Int32) (x2 : Int32) (x4 : Int32) (x5 : Int32) (x6 : Int32) (v : gV) : Int32 × gV := f_X12_claims_64  x2 x4 x5 x6 (vM v 560 (x6 + (1 : Int32)).toNatClampNeg x1)
def p_X12_claims_54  (x1 : Int32) (x2 : Int32) (x4 : Int32) (x5 : Int32) (x6 : Int32) (v : gV) : Prop := (vp_in (x6 + (1 : Int32)) 300) ∧ (p_X12_claims_64   x2 x4 x5 x6 (vM v 560 (x6 + (1 : Int32)).toNatClampNeg x1))
set_option maxHeartbeats 4000000 in
set_option maxRecDepth 100000 in
theorem w_X12_claims_54 {E : gE} {d : Nat} {Q : gO → gS → Prop}   (hd : 3 ≤ d) (x1 : Int32) (x2 : Int32) (x4 : Int32) (x5 : Int32) (x6 : Int32) (v : gV) (hp : p_X12_claims_54   x1 x2 x4 x5 x6 v) (hQ : gqIV Q (f_X12_claims_54  x1 x2 x4 x5 x6 v)) : gG E m_X12_claims d Q 0 0 (rS v) 54 [(0, .ref (gX E + 559)), (1, .int x1), (2, .int x2), (4, .int x4), (5, .int x5), (6, .int x6)] [] := by
  refine g_aload_n 0 dX12_claims_54 rfl ?_
  refine r_get (.ref (gX E + 560)) f_X12_7_X12 rfl (by decide : kd 559 = (0, 9)) (show 559 < 572 by decide) dX12_claims_55 (fun _ => rfl) ?_
  refine g_iload 5 dX12_claims_58 rfl ?_
  refine g_iconst dX12_claims_60 (1 : Int32) (by decide) ?_
  refine g_iadd dX12_claims_61 ?_
  refine g_iload_n 1 dX12_claims_62 rfl ?_
  obtain ⟨h5, hp⟩ := hp
  refine r_iast (by decide : kd 560 = (1, 300)) (show 560 < 572 by decide) h5 dX12_claims_63 ?_
  refine g_lv (lv' := [(0, .ref (gX E + 559)), (2, .int x2), (4, .int x4), (5, .int x5), (6, .int x6)]) [0, 2, 3, 4, 5] rfl ?_
  exact w_X12_claims_64  hd    x2 x4 x5 x6 (vM v 560 (x6 + (1 : Int32)).toNatClampNeg x1) hp hQ
def f_X12_claims_37  (x1 : Int32) (x2 : Int32) (x4 : Int32) (x5 : Int32) (x6 : Int32) (s0 : Int32) (v : gV) : Int32 × gV := f_X12_claims_54  x1 x2 x4 x5 x6 (vM v 560 (x6 + (0 : Int32)).toNatClampNeg (v.1 560 (5 : Int32).toNatClampNeg))
def p_X12_claims_37  (x1 : Int32) (x2 : Int32) (x4 : Int32) (x5 : Int32) (x6 : Int32) (s0 : Int32) (v : gV) : Prop := (vp_in (x6 + (0 : Int32)) 300) ∧ (p_X12_claims_54   x1 x2 x4 x5 x6 (vM v 560 (x6 + (0 : Int32)).toNatClampNeg (v.1 560 (5 : Int32).toNatClampNeg)))
set_option maxHeartbeats 4000000 in
set_option maxRecDepth 100000 in
theorem w_X12_claims_37 {E : gE} {d : Nat} {Q : gO → gS → Prop}   (hd : 3 ≤ d) (x1 : Int32) (x2 : Int32) (x4 : Int32) (x5 : Int32) (x6 : Int32) (s0 : Int32) (v : gV) (hp : p_X12_claims_37   x1 x2 x4 x5 x6 s0 v) (hQ : gqIV Q (f_X12_claims_37  x1 x2 x4 x5 x6 s0 v)) : gG E m_X12_claims d Q 0 0 (rS v) 37 [(0, .ref (gX E + 559)), (1, .int x1), (2, .int x2), (4, .int x4), (5, .int x5), (6, .int x6)] [.int s0] := by
  refine g_istore [(7, .int s0), (0, .ref (gX E + 559)), (1, .int x1), (2, .int x2), (4, .int x4), (5, .int x5), (6, .int x6)] dX12_claims_37 (by decide) rfl ?_
  refine g_aload_n 1 dX12_claims_39 rfl ?_
  refine r_get (.ref (gX E + 560)) f_X12_7_X12 rfl (by decide : kd 559 = (0, 9)) (show 559 < 572 by decide) dX12_claims_40 (fun _ => rfl) ?_
  refine g_iload 6 dX12_claims_43 rfl ?_
  refine g_iconst dX12_claims_45 (0 : Int32) (by decide) ?_
  refine g_iadd dX12_claims_46 ?_
  refine g_aload_n 1 dX12_claims_47 rfl ?_
  refine r_get (.ref (gX E + 560)) f_X12_7_X12 rfl (by decide : kd 559 = (0, 9)) (show 559 < 572 by decide) dX12_claims_48 (fun _ => rfl) ?_
  refine g_iconst dX12_claims_51 (5 : Int32) (by decide) ?_
  refine g_iald (by decide : kd 560 = (1, 300)) (show 560 < 572 by decide) (show ¬ (_ ∨ _) by decide) dX12_claims_52 ?_
  obtain ⟨h4, hp⟩ := hp
  refine r_iast (by decide : kd 560 = (1, 300)) (show 560 < 572 by decide) h4 dX12_claims_53 ?_
  refine g_lv (lv' := [(0, .ref (gX E + 559)), (1, .int x1), (2, .int x2), (4, .int x4), (5, .int x5), (6, .int x6)]) [1, 2, 3, 4, 5, 6] rfl ?_
  exact w_X12_claims_54  hd    x1 x2 x4 x5 x6 (vM v 560 (x6 + (0 : Int32)).toNatClampNeg (v.1 560 (5 : Int32).toNatClampNeg)) hp hQ
def f_X12_claims_0  (x1 : Int32) (x2 : Int32) (x3 : Int32) (v : gV) : Int32 × gV := f_X12_claims_37  x1 x2 (f_X12_policy x1 v) (f_X12_amountFor (f_X12_policy x1 v) x2 x3 v) ((72 : Int32) + ((12 : Int32) * (v.1 560 (1 : Int32).toNatClampNeg))) ((f_X12_bears (f_X12_amountFor (f_X12_policy x1 v) x2 x3 v) v).1) (f_X12_bears (f_X12_amountFor (f_X12_policy x1 v) x2 x3 v) v).2
def p_X12_claims_0  (x1 : Int32) (x2 : Int32) (x3 : Int32) (v : gV) : Prop := (p_X12_policy x1 v) ∧ ((p_X12_amountFor (f_X12_policy x1 v) x2 x3 v) ∧ ((p_X12_bears (f_X12_amountFor (f_X12_policy x1 v) x2 x3 v) v) ∧ (p_X12_claims_37   x1 x2 (f_X12_policy x1 v) (f_X12_amountFor (f_X12_policy x1 v) x2 x3 v) ((72 : Int32) + ((12 : Int32) * (v.1 560 (1 : Int32).toNatClampNeg))) ((f_X12_bears (f_X12_amountFor (f_X12_policy x1 v) x2 x3 v) v).1) (f_X12_bears (f_X12_amountFor (f_X12_policy x1 v) x2 x3 v) v).2)))
set_option maxHeartbeats 4000000 in
set_option maxRecDepth 100000 in
theorem w_X12_claims_0 {E : gE} {d : Nat} {Q : gO → gS → Prop}   (hd : 3 ≤ d) (x1 : Int32) (x2 : Int32) (x3 : Int32) (v : gV) (hp : p_X12_claims_0   x1 x2 x3 v) (hQ : gqIV Q (f_X12_claims_0  x1 x2 x3 v)) : gG E m_X12_claims d Q 0 0 (rS v) 0 [(0, .ref (gX E + 559)), (1, .int x1), (2, .int x2), (3, .int x3)] [] := by
  refine g_aload_n 0 dX12_claims_0 rfl ?_
  refine g_iload_n 1 dX12_claims_1 rfl ?_
  obtain ⟨h1, hp⟩ := hp
  refine g_callV (rest := []) s_X12_107_X12 rfl (c_X12_policy (E := E) (d := d - 1)   (by omega) x1 v h1) (by decide : kd 559 = (0, 9)) (show 559 < 572 by decide) rfl rfl (Nat.le_of_ble_eq_true rfl) (by omega) (by decide) (by decide) dX12_claims_2 (adV ?_) axN
  refine g_istore [(4, .int ((f_X12_policy x1 v))), (0, .ref (gX E + 559)), (1, .int x1), (2, .int x2), (3, .int x3)] dX12_claims_5 (by decide) rfl ?_
  refine g_aload_n 1 dX12_claims_7 rfl ?_
  refine g_iload 0 dX12_claims_8 rfl ?_
  refine g_iload_n 3 dX12_claims_10 rfl ?_
  refine g_iload_n 4 dX12_claims_11 rfl ?_
  obtain ⟨h2, hp⟩ := hp
  refine g_callV (rest := []) s_X12_155_X12 rfl (c_X12_amountFor (E := E) (d := d - 1)   (by omega) (f_X12_policy x1 v) x2 x3 v h2) (by decide : kd 559 = (0, 9)) (show 559 < 572 by decide) rfl rfl (Nat.le_of_ble_eq_true rfl) (by omega) (by decide) (by decide) dX12_claims_12 (adV ?_) axN
  refine g_istore [(5, .int ((f_X12_amountFor (f_X12_policy x1 v) x2 x3 v))), (4, .int ((f_X12_policy x1 v))), (0, .ref (gX E + 559)), (1, .int x1), (2, .int x2), (3, .int x3)] dX12_claims_15 (by decide) rfl ?_
  refine g_bipush dX12_claims_17 (72 : Int32) (by decide) ?_
  refine g_bipush dX12_claims_19 (12 : Int32) (by decide) ?_
  refine g_aload_n 2 dX12_claims_21 rfl ?_
  refine r_get (.ref (gX E + 560)) f_X12_7_X12 rfl (by decide : kd 559 = (0, 9)) (show 559 < 572 by decide) dX12_claims_22 (fun _ => rfl) ?_
  refine g_iconst dX12_claims_25 (1 : Int32) (by decide) ?_
  refine g_iald (by decide : kd 560 = (1, 300)) (show 560 < 572 by decide) (show ¬ (_ ∨ _) by decide) dX12_claims_26 ?_
  refine g_imul dX12_claims_27 ?_
  refine g_iadd dX12_claims_28 ?_
  refine g_istore [(6, .int ((72 : Int32) + ((12 : Int32) * (v.1 560 (1 : Int32).toNatClampNeg)))), (5, .int ((f_X12_amountFor (f_X12_policy x1 v) x2 x3 v))), (4, .int ((f_X12_policy x1 v))), (0, .ref (gX E + 559)), (1, .int x1), (2, .int x2), (3, .int x3)] dX12_claims_29 (by decide) rfl ?_
  refine g_aload_n 3 dX12_claims_31 rfl ?_
  refine g_iload 1 dX12_claims_32 rfl ?_
  obtain ⟨h3, hp⟩ := hp
  refine g_callV (rest := []) s_X12_158_X12 rfl (c_X12_bears (E := E) (d := d - 1)   (by omega) (f_X12_amountFor (f_X12_policy x1 v) x2 x3 v) v h3) (by decide : kd 559 = (0, 9)) (show 559 < 572 by decide) rfl rfl (Nat.le_of_ble_eq_true rfl) (by omega) (by decide) (by decide) dX12_claims_34 (adV ?_) axN
  refine g_lv (lv' := [(0, .ref (gX E + 559)), (1, .int x1), (2, .int x2), (4, .int ((f_X12_policy x1 v))), (5, .int ((f_X12_amountFor (f_X12_policy x1 v) x2 x3 v))), (6, .int ((72 : Int32) + ((12 : Int32) * (v.1 560 (1 : Int32).toNatClampNeg))))]) [3, 4, 5, 2, 1, 0] rfl ?_
  exact w_X12_claims_37  hd    x1 x2 (f_X12_policy x1 v) (f_X12_amountFor (f_X12_policy x1 v) x2 x3 v) ((72 : Int32) + ((12 : Int32) * (v.1 560 (1 : Int32).toNatClampNeg))) ((f_X12_bears (f_X12_amountFor (f_X12_policy x1 v) x2 x3 v) v).1) (f_X12_bears (f_X12_amountFor (f_X12_policy x1 v) x2 x3 v) v).2 hp hQ
def f_X12_claims  (x1 : Int32) (x2 : Int32) (x3 : Int32) (v : gV) : Int32 × gV := f_X12_claims_0 x1 x2 x3 v
def p_X12_claims  (x1 : Int32) (x2 : Int32) (x3 : Int32) (v : gV) : Prop := p_X12_claims_0 x1 x2 x3 v
theorem c_X12_claims {E : gE} {d : Nat}   (hd : 3 ≤ d) (x1 : Int32) (x2 : Int32) (x3 : Int32) (v : gV) (hp : p_X12_claims x1 x2 x3 v) : CT E m_X12_claims d 0 0 [.ref (gX E + 559), .int x1, .int x2, .int x3] (rS v) (Cq (.inl (some (.int ((f_X12_claims x1 x2 x3 v).1)))) (f_X12_claims x1 x2 x3 v).2) := CT.of ok_X12_claims rfl (Nat.le_of_ble_eq_true rfl) (w_X12_claims_0  hd x1 x2 x3 v hp ⟨rfl, rfl⟩)
def f_X12_claim__38  (s0 : Int32) (v : gV) : Int32 × gV := (s0, v)
def p_X12_claim__38  (s0 : Int32) (v : gV) : Prop := True
set_option maxHeartbeats 4000000 in
set_option maxRecDepth 100000 in
theorem w_X12_claim__38 {E : gE} {d : Nat} {Q : gO → gS → Prop}   (hd : 4 ≤ d) (s0 : Int32) (v : gV) (hp : p_X12_claim__38   s0 v) (hQ : gqIV Q (f_X12_claim__38  s0 v)) : gG E m_X12_claim_ d Q 0 0 (rS v) 38 [] [.int s0] := by
  exact g_iret rfl dX12_claim__38 hQ
def f_X12_claim__35  (s0 : Int32) (v : gV) : Int32 × gV := f_X12_claim__38  ((f_X12_commit s0 v).1) (f_X12_commit s0 v).2
def p_X12_claim__35  (s0 : Int32) (v : gV) : Prop := (p_X12_commit s0 v) ∧ (p_X12_claim__38   ((f_X12_commit s0 v).1) (f_X12_commit s0 v).2)
set_option maxHeartbeats 4000000 in
set_option maxRecDepth 100000 in
theorem w_X12_claim__35 {E : gE} {d : Nat} {Q : gO → gS → Prop}   (hd : 4 ≤ d) (s0 : Int32) (v : gV) (hp : p_X12_claim__35   s0 v) (hQ : gqIV Q (f_X12_claim__35  s0 v)) : gG E m_X12_claim_ d Q 0 0 (rS v) 35 [] [.int s0, .ref (gX E + 559)] := by
  obtain ⟨h5, hp⟩ := hp
  refine g_callV (rest := []) s_X12_101_X12 rfl (c_X12_commit (E := E) (d := d - 1)   (by omega) s0 v h5) (by decide : kd 559 = (0, 9)) (show 559 < 572 by decide) rfl rfl (Nat.le_of_ble_eq_true rfl) (by omega) (by decide) (by decide) dX12_claim__35 (adV ?_) axN
  exact w_X12_claim__38  hd    ((f_X12_commit s0 v).1) (f_X12_commit s0 v).2 hp hQ
def f_X12_claim__24  (s0 : Int32) (v : gV) : Int32 × gV := f_X12_claim__38  s0 v
def p_X12_claim__24  (s0 : Int32) (v : gV) : Prop := p_X12_claim__38   s0 v
set_option maxHeartbeats 4000000 in
set_option maxRecDepth 100000 in
theorem w_X12_claim__24 {E : gE} {d : Nat} {Q : gO → gS → Prop}   (hd : 4 ≤ d) (s0 : Int32) (v : gV) (hp : p_X12_claim__24   s0 v) (hQ : gqIV Q (f_X12_claim__24  s0 v)) : gG E m_X12_claim_ d Q 0 0 (rS v) 24 [] [.int s0] := by
  refine g_goto 38 dX12_claim__24 (by decide) ?_
  exact w_X12_claim__38  hd    s0 v hp hQ
def f_X12_claim__4  (x1 : Int32) (x2 : Int32) (x3 : Int32) (v : gV) : Int32 × gV := if (f_X12_cannotClaim x1 x2 x3 v) ≤ 0 then (f_X12_claim__35  ((f_X12_claims x1 x2 x3 v).1) (f_X12_claims x1 x2 x3 v).2) else (f_X12_claim__24  ((f_X12_fail (f_X12_cannotClaim x1 x2 x3 v) v).1) (f_X12_fail (f_X12_cannotClaim x1 x2 x3 v) v).2)
def p_X12_claim__4  (x1 : Int32) (x2 : Int32) (x3 : Int32) (v : gV) : Prop := (p_X12_cannotClaim x1 x2 x3 v) ∧ ((((f_X12_cannotClaim x1 x2 x3 v) ≤ 0) → ((p_X12_claims x1 x2 x3 v) ∧ (p_X12_claim__35   ((f_X12_claims x1 x2 x3 v).1) (f_X12_claims x1 x2 x3 v).2))) ∧ (¬ ((f_X12_cannotClaim x1 x2 x3 v) ≤ 0) → ((p_X12_fail (f_X12_cannotClaim x1 x2 x3 v) v) ∧ (p_X12_claim__24   ((f_X12_fail (f_X12_cannotClaim x1 x2 x3 v) v).1) (f_X12_fail (f_X12_cannotClaim x1 x2 x3 v) v).2))))
set_option maxHeartbeats 4000000 in
set_option maxRecDepth 100000 in
theorem w_X12_claim__4 {E : gE} {d : Nat} {Q : gO → gS → Prop}   (hd : 4 ≤ d) (x1 : Int32) (x2 : Int32) (x3 : Int32) (v : gV) (hp : p_X12_claim__4   x1 x2 x3 v) (hQ : gqIV Q (f_X12_claim__4  x1 x2 x3 v)) : gG E m_X12_claim_ d Q 0 0 (rS v) 4 [(0, .ref (gX E + 559)), (1, .int x1), (2, .int x2), (3, .int x3)] [] := by
  refine g_aload_n 0 dX12_claim__4 rfl ?_
  refine g_iload_n 1 dX12_claim__5 rfl ?_
  refine g_iload_n 2 dX12_claim__6 rfl ?_
  refine g_iload_n 3 dX12_claim__7 rfl ?_
  obtain ⟨h2, hp⟩ := hp
  refine g_callV (rest := []) s_X12_161_X12 rfl (c_X12_cannotClaim (E := E) (d := d - 1)   (by omega) x1 x2 x3 v h2) (by decide : kd 559 = (0, 9)) (show 559 < 572 by decide) rfl rfl (Nat.le_of_ble_eq_true rfl) (by omega) (by decide) (by decide) dX12_claim__8 (adV ?_) axN
  refine g_istore [(4, .int ((f_X12_cannotClaim x1 x2 x3 v))), (0, .ref (gX E + 559)), (1, .int x1), (2, .int x2), (3, .int x3)] dX12_claim__11 (by decide) rfl ?_
  refine g_iload 0 dX12_claim__13 rfl ?_
  refine g_if_le 27 dX12_claim__15 (by decide) (fun h3 => ?_) (fun h3 => ?_)
  · have hQ := qp (P := gqIV Q) h3 hQ
    have hp := hp.1 h3
    refine g_aload_n 1 dX12_claim__27 rfl ?_
    refine g_aload_n 1 dX12_claim__28 rfl ?_
    refine g_iload_n 2 dX12_claim__29 rfl ?_
    refine g_iload_n 3 dX12_claim__30 rfl ?_
    refine g_iload_n 4 dX12_claim__31 rfl ?_
    obtain ⟨h4, hp⟩ := hp
    refine g_callV (rest := [.ref (gX E + 559)]) s_X12_164_X12 rfl (c_X12_claims (E := E) (d := d - 1)   (by omega) x1 x2 x3 v h4) (by decide : kd 559 = (0, 9)) (show 559 < 572 by decide) rfl rfl (Nat.le_of_ble_eq_true rfl) (by omega) (by decide) (by decide) dX12_claim__32 (adV ?_) axN
    refine g_lv (lv' := []) [] rfl ?_
    exact w_X12_claim__35  hd    ((f_X12_claims x1 x2 x3 v).1) (f_X12_claims x1 x2 x3 v).2 hp hQ
  · have hQ := qn (P := gqIV Q) h3 hQ
    have hp := hp.2 h3
    refine g_aload_n 1 dX12_claim__18 rfl ?_
    refine g_iload 0 dX12_claim__19 rfl ?_
    obtain ⟨h6, hp⟩ := hp
    refine g_callV (rest := []) s_X12_94_X12 rfl (c_X12_fail (E := E) (d := d - 1)   (by omega) (f_X12_cannotClaim x1 x2 x3 v) v h6) (by decide : kd 559 = (0, 9)) (show 559 < 572 by decide) rfl rfl (Nat.le_of_ble_eq_true rfl) (by omega) (by decide) (by decide) dX12_claim__21 (adV ?_) axN
    refine g_lv (lv' := []) [] rfl ?_
    exact w_X12_claim__24  hd    ((f_X12_fail (f_X12_cannotClaim x1 x2 x3 v) v).1) (f_X12_fail (f_X12_cannotClaim x1 x2 x3 v) v).2 hp hQ
def f_X12_claim__0  (x1 : Int32) (x2 : Int32) (x3 : Int32) (v : gV) : Int32 × gV := f_X12_claim__4  x1 x2 x3 (f_X12_begin  v)
def p_X12_claim__0  (x1 : Int32) (x2 : Int32) (x3 : Int32) (v : gV) : Prop := (p_X12_begin  v) ∧ (p_X12_claim__4   x1 x2 x3 (f_X12_begin  v))
set_option maxHeartbeats 4000000 in
set_option maxRecDepth 100000 in
theorem w_X12_claim__0 {E : gE} {d : Nat} {Q : gO → gS → Prop}   (hd : 4 ≤ d) (x1 : Int32) (x2 : Int32) (x3 : Int32) (v : gV) (hp : p_X12_claim__0   x1 x2 x3 v) (hQ : gqIV Q (f_X12_claim__0  x1 x2 x3 v)) : gG E m_X12_claim_ d Q 0 0 (rS v) 0 [(0, .ref (gX E + 559)), (1, .int x1), (2, .int x2), (3, .int x3)] [] := by
  refine g_aload_n 0 dX12_claim__0 rfl ?_
  obtain ⟨h1, hp⟩ := hp
  refine g_callV (rest := []) s_X12_87_X12 rfl (c_X12_begin (E := E) (d := d - 1)   (by omega)  v h1) (by decide : kd 559 = (0, 9)) (show 559 < 572 by decide) rfl rfl (Nat.le_of_ble_eq_true rfl) (by omega) (by decide) (by decide) dX12_claim__1 (adN ?_) axN
  exact w_X12_claim__4  hd    x1 x2 x3 (f_X12_begin  v) hp hQ
def f_X12_claim_  (x1 : Int32) (x2 : Int32) (x3 : Int32) (v : gV) : Int32 × gV := f_X12_claim__0 x1 x2 x3 v
def p_X12_claim_  (x1 : Int32) (x2 : Int32) (x3 : Int32) (v : gV) : Prop := p_X12_claim__0 x1 x2 x3 v
theorem c_X12_claim_ {E : gE} {d : Nat}   (hd : 4 ≤ d) (x1 : Int32) (x2 : Int32) (x3 : Int32) (v : gV) (hp : p_X12_claim_ x1 x2 x3 v) : CT E m_X12_claim_ d 0 0 [.ref (gX E + 559), .int x1, .int x2, .int x3] (rS v) (Cq (.inl (some (.int ((f_X12_claim_ x1 x2 x3 v).1)))) (f_X12_claim_ x1 x2 x3 v).2) := CT.of ok_X12_claim_ rfl (Nat.le_of_ble_eq_true rfl) (w_X12_claim__0  hd x1 x2 x3 v hp ⟨rfl, rfl⟩)
def f_X12_cannotPay_46  (s0 : Int32) (v : gV) : Int32 := s0
def p_X12_cannotPay_46  (s0 : Int32) (v : gV) : Prop := True
set_option maxHeartbeats 4000000 in
set_option maxRecDepth 100000 in
theorem w_X12_cannotPay_46 {E : gE} {d : Nat} {Q : gO → gS → Prop}   (hd : 2 ≤ d) (s0 : Int32) (v : gV) (hp : p_X12_cannotPay_46   s0 v) (hQ : gqI Q v (f_X12_cannotPay_46  s0 v)) : gG E m_X12_cannotPay d Q 0 0 (rS v) 46 [] [.int s0] := by
  exact g_iret rfl dX12_cannotPay_46 hQ
def f_X12_cannotPay_0  (x1 : Int32) (x2 : Int32) (v : gV) : Int32 := if 0 ≤ (f_X12_claim x1 v) then (if (f_X12_in x2 (1 : Int32) (99 : Int32) v) = 0 then ((2 : Int32)) else (if x2 ≤ ((f_X12_c (f_X12_claim x1 v) (3 : Int32) v) - (f_X12_c (f_X12_claim x1 v) (4 : Int32) v)) then (f_X12_cannotPay_46  (0 : Int32) v) else (f_X12_cannotPay_46  (3 : Int32) v))) else ((1 : Int32))
def p_X12_cannotPay_0  (x1 : Int32) (x2 : Int32) (v : gV) : Prop := (p_X12_claim x1 v) ∧ (((0 ≤ (f_X12_claim x1 v)) → ((p_X12_in x2 (1 : Int32) (99 : Int32) v) ∧ ((((f_X12_in x2 (1 : Int32) (99 : Int32) v) = 0) → (True)) ∧ (¬ ((f_X12_in x2 (1 : Int32) (99 : Int32) v) = 0) → ((p_X12_c (f_X12_claim x1 v) (3 : Int32) v) ∧ ((p_X12_c (f_X12_claim x1 v) (4 : Int32) v) ∧ (((x2 ≤ ((f_X12_c (f_X12_claim x1 v) (3 : Int32) v) - (f_X12_c (f_X12_claim x1 v) (4 : Int32) v))) → (p_X12_cannotPay_46   (0 : Int32) v)) ∧ (¬ (x2 ≤ ((f_X12_c (f_X12_claim x1 v) (3 : Int32) v) - (f_X12_c (f_X12_claim x1 v) (4 : Int32) v))) → (p_X12_cannotPay_46   (3 : Int32) v))))))))) ∧ (¬ (0 ≤ (f_X12_claim x1 v)) → (True)))
set_option maxHeartbeats 4000000 in
set_option maxRecDepth 100000 in
theorem w_X12_cannotPay_0 {E : gE} {d : Nat} {Q : gO → gS → Prop}   (hd : 2 ≤ d) (x1 : Int32) (x2 : Int32) (v : gV) (hp : p_X12_cannotPay_0   x1 x2 v) (hQ : gqI Q v (f_X12_cannotPay_0  x1 x2 v)) : gG E m_X12_cannotPay d Q 0 0 (rS v) 0 [(0, .ref (gX E + 559)), (1, .int x1), (2, .int x2)] [] := by
  refine g_aload_n 0 dX12_cannotPay_0 rfl ?_
  refine g_iload_n 1 dX12_cannotPay_1 rfl ?_
  obtain ⟨h1, hp⟩ := hp
  refine g_callV (rest := []) s_X12_167_X12 rfl (c_X12_claim (E := E) (d := d - 1)   (by omega) x1 v h1) (by decide : kd 559 = (0, 9)) (show 559 < 572 by decide) rfl rfl (Nat.le_of_ble_eq_true rfl) (by omega) (by decide) (by decide) dX12_cannotPay_2 (adV ?_) axN
  refine g_istore_n [(3, .int ((f_X12_claim x1 v))), (0, .ref (gX E + 559)), (1, .int x1), (2, .int x2)] dX12_cannotPay_5 rfl (by decide) rfl ?_
  refine g_iload_n 0 dX12_cannotPay_6 rfl ?_
  refine g_if_ge 12 dX12_cannotPay_7 (by decide) (fun h2 => ?_) (fun h2 => ?_)
  · have hQ := qp (P := gqI Q v) h2 hQ
    have hp := hp.1 h2
    refine g_iload_n 3 dX12_cannotPay_12 rfl ?_
    refine g_iconst dX12_cannotPay_13 (1 : Int32) (by decide) ?_
    refine g_bipush dX12_cannotPay_14 (99 : Int32) (by decide) ?_
    obtain ⟨h3, hp⟩ := hp
    refine g_callS (rest := []) s_X12_83 rfl (c_X12_in (E := E) (d := d - 1)   (by omega) x2 (1 : Int32) (99 : Int32) v h3) rfl rfl (Nat.le_of_ble_eq_true rfl) (by omega) (by decide) (by decide) dX12_cannotPay_16 (adV ?_) axN
    refine g_if_ne 24 dX12_cannotPay_19 (by decide) (fun h4 => ?_) (fun h4 => ?_)
    · have hQ := qn (P := gqI Q v) h4 hQ
      have hp := hp.2 h4
      refine g_aload_n 1 dX12_cannotPay_24 rfl ?_
      refine g_iload_n 0 dX12_cannotPay_25 rfl ?_
      refine g_iconst dX12_cannotPay_26 (3 : Int32) (by decide) ?_
      obtain ⟨h5, hp⟩ := hp
      refine g_callV (rest := []) s_X12_104_X12 rfl (c_X12_c (E := E) (d := d - 1)   (by omega) (f_X12_claim x1 v) (3 : Int32) v h5) (by decide : kd 559 = (0, 9)) (show 559 < 572 by decide) rfl rfl (Nat.le_of_ble_eq_true rfl) (by omega) (by decide) (by decide) dX12_cannotPay_27 (adV ?_) axN
      refine g_aload_n 1 dX12_cannotPay_30 rfl ?_
      refine g_iload_n 0 dX12_cannotPay_31 rfl ?_
      refine g_iconst dX12_cannotPay_32 (4 : Int32) (by decide) ?_
      obtain ⟨h6, hp⟩ := hp
      refine g_callV (rest := [.int ((f_X12_c (f_X12_claim x1 v) (3 : Int32) v))]) s_X12_104_X12 rfl (c_X12_c (E := E) (d := d - 1)   (by omega) (f_X12_claim x1 v) (4 : Int32) v h6) (by decide : kd 559 = (0, 9)) (show 559 < 572 by decide) rfl rfl (Nat.le_of_ble_eq_true rfl) (by omega) (by decide) (by decide) dX12_cannotPay_33 (adV ?_) axN
      refine g_isub dX12_cannotPay_36 ?_
      refine g_iload_n 3 dX12_cannotPay_37 rfl ?_
      refine g_icmp_ge 45 dX12_cannotPay_38 (by decide) (fun h7 => ?_) (fun h7 => ?_)
      · have hQ := qp (P := gqI Q v) h7 hQ
        have hp := hp.1 h7
        refine g_iconst dX12_cannotPay_45 (0 : Int32) (by decide) ?_
        refine g_lv (lv' := []) [] rfl ?_
        exact w_X12_cannotPay_46  hd    (0 : Int32) v hp hQ
      · have hQ := qn (P := gqI Q v) h7 hQ
        have hp := hp.2 h7
        refine g_iconst dX12_cannotPay_41 (3 : Int32) (by decide) ?_
        refine g_goto 46 dX12_cannotPay_42 (by decide) ?_
        refine g_lv (lv' := []) [] rfl ?_
        exact w_X12_cannotPay_46  hd    (3 : Int32) v hp hQ
    · have hQ := qp (P := gqI Q v) h4 hQ
      have hp := hp.1 h4
      refine g_iconst dX12_cannotPay_22 (2 : Int32) (by decide) ?_
      exact g_iret rfl dX12_cannotPay_23 hQ
  · have hQ := qn (P := gqI Q v) h2 hQ
    have hp := hp.2 h2
    refine g_iconst dX12_cannotPay_10 (1 : Int32) (by decide) ?_
    exact g_iret rfl dX12_cannotPay_11 hQ
def f_X12_cannotPay  (x1 : Int32) (x2 : Int32) (v : gV) : Int32 := f_X12_cannotPay_0 x1 x2 v
def p_X12_cannotPay  (x1 : Int32) (x2 : Int32) (v : gV) : Prop := p_X12_cannotPay_0 x1 x2 v
theorem c_X12_cannotPay {E : gE} {d : Nat}   (hd : 2 ≤ d) (x1 : Int32) (x2 : Int32) (v : gV) (hp : p_X12_cannotPay x1 x2 v) : CT E m_X12_cannotPay d 0 0 [.ref (gX E + 559), .int x1, .int x2] (rS v) (Cq (.inl (some (.int (f_X12_cannotPay x1 x2 v)))) v) := CT.of ok_X12_cannotPay rfl (Nat.le_of_ble_eq_true rfl) (w_X12_cannotPay_0  hd x1 x2 v hp ⟨rfl, rfl⟩)
def f_X12_pays_113  (x5 : Int32) (v : gV) : Int32 × gV := (x5, v)
def p_X12_pays_113  (x5 : Int32) (v : gV) : Prop := True
set_option maxHeartbeats 4000000 in
set_option maxRecDepth 100000 in
theorem w_X12_pays_113 {E : gE} {d : Nat} {Q : gO → gS → Prop}   (hd : 3 ≤ d) (x5 : Int32) (v : gV) (hp : p_X12_pays_113   x5 v) (hQ : gqIV Q (f_X12_pays_113  x5 v)) : gG E m_X12_pays d Q 0 0 (rS v) 113 [(5, .int x5)] [] := by
  refine g_iload 0 dX12_pays_113 rfl ?_
  exact g_iret rfl dX12_pays_115 hQ
def f_X12_pays_55  (x2 : Int32) (x3 : Int32) (x5 : Int32) (v : gV) : Int32 × gV := if (6 : Int32) ≤ ((v.1 560 (6 : Int32).toNatClampNeg) / (10 : Int32)) then (f_X12_pays_113  x5 v) else (f_X12_pays_113  x5 (vM v 560 ((((264 : Int32) + ((6 : Int32) * ((f_X12_c x3 (5 : Int32) v) / (10 : Int32)))) + ((v.1 560 (6 : Int32).toNatClampNeg) / (10 : Int32))) - ((f_X12_c x3 (5 : Int32) v) / (10 : Int32))).toNatClampNeg ((v.1 560 ((((264 : Int32) + ((6 : Int32) * ((f_X12_c x3 (5 : Int32) v) / (10 : Int32)))) + ((v.1 560 (6 : Int32).toNatClampNeg) / (10 : Int32))) - ((f_X12_c x3 (5 : Int32) v) / (10 : Int32))).toNatClampNeg) + x2)))
def p_X12_pays_55  (x2 : Int32) (x3 : Int32) (x5 : Int32) (v : gV) : Prop := (p_X12_c x3 (5 : Int32) v) ∧ ((((6 : Int32) ≤ ((v.1 560 (6 : Int32).toNatClampNeg) / (10 : Int32))) → (p_X12_pays_113   x5 v)) ∧ (¬ ((6 : Int32) ≤ ((v.1 560 (6 : Int32).toNatClampNeg) / (10 : Int32))) → ((vp_in ((((264 : Int32) + ((6 : Int32) * ((f_X12_c x3 (5 : Int32) v) / (10 : Int32)))) + ((v.1 560 (6 : Int32).toNatClampNeg) / (10 : Int32))) - ((f_X12_c x3 (5 : Int32) v) / (10 : Int32))) 300) ∧ ((vp_in ((((264 : Int32) + ((6 : Int32) * ((f_X12_c x3 (5 : Int32) v) / (10 : Int32)))) + ((v.1 560 (6 : Int32).toNatClampNeg) / (10 : Int32))) - ((f_X12_c x3 (5 : Int32) v) / (10 : Int32))) 300) ∧ (p_X12_pays_113   x5 (vM v 560 ((((264 : Int32) + ((6 : Int32) * ((f_X12_c x3 (5 : Int32) v) / (10 : Int32)))) + ((v.1 560 (6 : Int32).toNatClampNeg) / (10 : Int32))) - ((f_X12_c x3 (5 : Int32) v) / (10 : Int32))).toNatClampNeg ((v.1 560 ((((264 : Int32) + ((6 : Int32) * ((f_X12_c x3 (5 : Int32) v) / (10 : Int32)))) + ((v.1 560 (6 : Int32).toNatClampNeg) / (10 : Int32))) - ((f_X12_c x3 (5 : Int32) v) / (10 : Int32))).toNatClampNeg) + x2)))))))
set_option maxHeartbeats 4000000 in
set_option maxRecDepth 100000 in
theorem w_X12_pays_55 {E : gE} {d : Nat} {Q : gO → gS → Prop}   (hd : 3 ≤ d) (x2 : Int32) (x3 : Int32) (x5 : Int32) (v : gV) (hp : p_X12_pays_55   x2 x3 x5 v) (hQ : gqIV Q (f_X12_pays_55  x2 x3 x5 v)) : gG E m_X12_pays d Q 0 0 (rS v) 55 [(0, .ref (gX E + 559)), (2, .int x2), (3, .int x3), (5, .int x5)] [] := by
  refine g_aload_n 0 dX12_pays_55 rfl ?_
  refine g_iload_n 2 dX12_pays_56 rfl ?_
  refine g_iconst dX12_pays_57 (5 : Int32) (by decide) ?_
  obtain ⟨h6, hp⟩ := hp
  refine g_callV (rest := []) s_X12_104_X12 rfl (c_X12_c (E := E) (d := d - 1)   (by omega) x3 (5 : Int32) v h6) (by decide : kd 559 = (0, 9)) (show 559 < 572 by decide) rfl rfl (Nat.le_of_ble_eq_true rfl) (by omega) (by decide) (by decide) dX12_pays_58 (adV ?_) axN
  refine g_bipush dX12_pays_61 (10 : Int32) (by decide) ?_
  refine g_idiv dX12_pays_63 (by decide) ?_
  refine g_istore [(6, .int ((f_X12_c x3 (5 : Int32) v) / (10 : Int32))), (0, .ref (gX E + 559)), (2, .int x2), (3, .int x3), (5, .int x5)] dX12_pays_64 (by decide) rfl ?_
  refine g_aload_n 1 dX12_pays_66 rfl ?_
  refine r_get (.ref (gX E + 560)) f_X12_7_X12 rfl (by decide : kd 559 = (0, 9)) (show 559 < 572 by decide) dX12_pays_67 (fun _ => rfl) ?_
  refine g_bipush dX12_pays_70 (6 : Int32) (by decide) ?_
  refine g_iald (by decide : kd 560 = (1, 300)) (show 560 < 572 by decide) (show ¬ (_ ∨ _) by decide) dX12_pays_72 ?_
  refine g_bipush dX12_pays_73 (10 : Int32) (by decide) ?_
  refine g_idiv dX12_pays_75 (by decide) ?_
  refine g_bipush dX12_pays_76 (6 : Int32) (by decide) ?_
  refine g_icmp_ge 113 dX12_pays_78 (by decide) (fun h7 => ?_) (fun h7 => ?_)
  · have hQ := qp (P := gqIV Q) h7 hQ
    have hp := hp.1 h7
    refine g_lv (lv' := [(5, .int x5)]) [4] rfl ?_
    exact w_X12_pays_113  hd    x5 v hp hQ
  · have hQ := qn (P := gqIV Q) h7 hQ
    have hp := hp.2 h7
    refine g_aload_n 1 dX12_pays_81 rfl ?_
    refine r_get (.ref (gX E + 560)) f_X12_7_X12 rfl (by decide : kd 559 = (0, 9)) (show 559 < 572 by decide) dX12_pays_82 (fun _ => rfl) ?_
    refine g_sipush dX12_pays_85 (264 : Int32) (by decide) ?_
    refine g_bipush dX12_pays_88 (6 : Int32) (by decide) ?_
    refine g_iload 0 dX12_pays_90 rfl ?_
    refine g_imul dX12_pays_92 ?_
    refine g_iadd dX12_pays_93 ?_
    refine g_aload_n 1 dX12_pays_94 rfl ?_
    refine r_get (.ref (gX E + 560)) f_X12_7_X12 rfl (by decide : kd 559 = (0, 9)) (show 559 < 572 by decide) dX12_pays_95 (fun _ => rfl) ?_
    refine g_bipush dX12_pays_98 (6 : Int32) (by decide) ?_
    refine g_iald (by decide : kd 560 = (1, 300)) (show 560 < 572 by decide) (show ¬ (_ ∨ _) by decide) dX12_pays_100 ?_
    refine g_bipush dX12_pays_101 (10 : Int32) (by decide) ?_
    refine g_idiv dX12_pays_103 (by decide) ?_
    refine g_iadd dX12_pays_104 ?_
    refine g_iload 0 dX12_pays_105 rfl ?_
    refine g_isub dX12_pays_107 ?_
    refine g_dup2 dX12_pays_108 rfl rfl ?_
    obtain ⟨h8, hp⟩ := hp
    refine g_iald (by decide : kd 560 = (1, 300)) (show 560 < 572 by decide) h8 dX12_pays_109 ?_
    refine g_iload_n 2 dX12_pays_110 rfl ?_
    refine g_iadd dX12_pays_111 ?_
    obtain ⟨h9, hp⟩ := hp
    refine r_iast (by decide : kd 560 = (1, 300)) (show 560 < 572 by decide) h9 dX12_pays_112 ?_
    refine g_lv (lv' := [(5, .int x5)]) [4] rfl ?_
    exact w_X12_pays_113  hd    x5 (vM v 560 ((((264 : Int32) + ((6 : Int32) * ((f_X12_c x3 (5 : Int32) v) / (10 : Int32)))) + ((v.1 560 (6 : Int32).toNatClampNeg) / (10 : Int32))) - ((f_X12_c x3 (5 : Int32) v) / (10 : Int32))).toNatClampNeg ((v.1 560 ((((264 : Int32) + ((6 : Int32) * ((f_X12_c x3 (5 : Int32) v) / (10 : Int32)))) + ((v.1 560 (6 : Int32).toNatClampNeg) / (10 : Int32))) - ((f_X12_c x3 (5 : Int32) v) / (10 : Int32))).toNatClampNeg) + x2)) hp hQ
def f_X12_pays_31  (x2 : Int32) (x3 : Int32) (x4 : Int32) (v : gV) : Int32 × gV := f_X12_pays_55  x2 x3 ((f_X12_recoveredOf x3 v) - x4) (vM v 560 (7 : Int32).toNatClampNeg ((v.1 560 (7 : Int32).toNatClampNeg) + (((f_X12_recoveredOf x3 v) - x4) - x2)))
def p_X12_pays_31  (x2 : Int32) (x3 : Int32) (x4 : Int32) (v : gV) : Prop := (p_X12_recoveredOf x3 v) ∧ (p_X12_pays_55   x2 x3 ((f_X12_recoveredOf x3 v) - x4) (vM v 560 (7 : Int32).toNatClampNeg ((v.1 560 (7 : Int32).toNatClampNeg) + (((f_X12_recoveredOf x3 v) - x4) - x2))))
set_option maxHeartbeats 4000000 in
set_option maxRecDepth 100000 in
theorem w_X12_pays_31 {E : gE} {d : Nat} {Q : gO → gS → Prop}   (hd : 3 ≤ d) (x2 : Int32) (x3 : Int32) (x4 : Int32) (v : gV) (hp : p_X12_pays_31   x2 x3 x4 v) (hQ : gqIV Q (f_X12_pays_31  x2 x3 x4 v)) : gG E m_X12_pays d Q 0 0 (rS v) 31 [(0, .ref (gX E + 559)), (2, .int x2), (3, .int x3), (4, .int x4)] [] := by
  refine g_aload_n 0 dX12_pays_31 rfl ?_
  refine g_iload_n 2 dX12_pays_32 rfl ?_
  obtain ⟨h5, hp⟩ := hp
  refine g_callV (rest := []) s_X12_170_X12 rfl (c_X12_recoveredOf (E := E) (d := d - 1)   (by omega) x3 v h5) (by decide : kd 559 = (0, 9)) (show 559 < 572 by decide) rfl rfl (Nat.le_of_ble_eq_true rfl) (by omega) (by decide) (by decide) dX12_pays_33 (adV ?_) axN
  refine g_iload 3 dX12_pays_36 rfl ?_
  refine g_isub dX12_pays_38 ?_
  refine g_istore [(5, .int ((f_X12_recoveredOf x3 v) - x4)), (0, .ref (gX E + 559)), (2, .int x2), (3, .int x3), (4, .int x4)] dX12_pays_39 (by decide) rfl ?_
  refine g_aload_n 1 dX12_pays_41 rfl ?_
  refine r_get (.ref (gX E + 560)) f_X12_7_X12 rfl (by decide : kd 559 = (0, 9)) (show 559 < 572 by decide) dX12_pays_42 (fun _ => rfl) ?_
  refine g_bipush dX12_pays_45 (7 : Int32) (by decide) ?_
  refine g_dup2 dX12_pays_47 rfl rfl ?_
  refine g_iald (by decide : kd 560 = (1, 300)) (show 560 < 572 by decide) (show ¬ (_ ∨ _) by decide) dX12_pays_48 ?_
  refine g_iload 0 dX12_pays_49 rfl ?_
  refine g_iload_n 2 dX12_pays_51 rfl ?_
  refine g_isub dX12_pays_52 ?_
  refine g_iadd dX12_pays_53 ?_
  refine r_iast (by decide : kd 560 = (1, 300)) (show 560 < 572 by decide) (show ¬ (_ ∨ _) by decide) dX12_pays_54 ?_
  refine g_lv (lv' := [(0, .ref (gX E + 559)), (2, .int x2), (3, .int x3), (5, .int ((f_X12_recoveredOf x3 v) - x4))]) [1, 2, 3, 0] rfl ?_
  exact w_X12_pays_55  hd    x2 x3 ((f_X12_recoveredOf x3 v) - x4) (vM v 560 (7 : Int32).toNatClampNeg ((v.1 560 (7 : Int32).toNatClampNeg) + (((f_X12_recoveredOf x3 v) - x4) - x2))) hp hQ
def f_X12_pays_0  (x1 : Int32) (x2 : Int32) (v : gV) : Int32 × gV := f_X12_pays_31  x2 (f_X12_claim x1 v) (f_X12_recoveredOf (f_X12_claim x1 v) v) (vM v 560 (((72 : Int32) + ((12 : Int32) * (f_X12_claim x1 v))) + (4 : Int32)).toNatClampNeg ((v.1 560 (((72 : Int32) + ((12 : Int32) * (f_X12_claim x1 v))) + (4 : Int32)).toNatClampNeg) + x2))
def p_X12_pays_0  (x1 : Int32) (x2 : Int32) (v : gV) : Prop := (p_X12_claim x1 v) ∧ ((p_X12_recoveredOf (f_X12_claim x1 v) v) ∧ ((vp_in (((72 : Int32) + ((12 : Int32) * (f_X12_claim x1 v))) + (4 : Int32)) 300) ∧ ((vp_in (((72 : Int32) + ((12 : Int32) * (f_X12_claim x1 v))) + (4 : Int32)) 300) ∧ (p_X12_pays_31   x2 (f_X12_claim x1 v) (f_X12_recoveredOf (f_X12_claim x1 v) v) (vM v 560 (((72 : Int32) + ((12 : Int32) * (f_X12_claim x1 v))) + (4 : Int32)).toNatClampNeg ((v.1 560 (((72 : Int32) + ((12 : Int32) * (f_X12_claim x1 v))) + (4 : Int32)).toNatClampNeg) + x2))))))
set_option maxHeartbeats 4000000 in
set_option maxRecDepth 100000 in
theorem w_X12_pays_0 {E : gE} {d : Nat} {Q : gO → gS → Prop}   (hd : 3 ≤ d) (x1 : Int32) (x2 : Int32) (v : gV) (hp : p_X12_pays_0   x1 x2 v) (hQ : gqIV Q (f_X12_pays_0  x1 x2 v)) : gG E m_X12_pays d Q 0 0 (rS v) 0 [(0, .ref (gX E + 559)), (1, .int x1), (2, .int x2)] [] := by
  refine g_aload_n 0 dX12_pays_0 rfl ?_
  refine g_iload_n 1 dX12_pays_1 rfl ?_
  obtain ⟨h1, hp⟩ := hp
  refine g_callV (rest := []) s_X12_167_X12 rfl (c_X12_claim (E := E) (d := d - 1)   (by omega) x1 v h1) (by decide : kd 559 = (0, 9)) (show 559 < 572 by decide) rfl rfl (Nat.le_of_ble_eq_true rfl) (by omega) (by decide) (by decide) dX12_pays_2 (adV ?_) axN
  refine g_istore_n [(3, .int ((f_X12_claim x1 v))), (0, .ref (gX E + 559)), (1, .int x1), (2, .int x2)] dX12_pays_5 rfl (by decide) rfl ?_
  refine g_aload_n 1 dX12_pays_6 rfl ?_
  refine g_iload_n 0 dX12_pays_7 rfl ?_
  obtain ⟨h2, hp⟩ := hp
  refine g_callV (rest := []) s_X12_170_X12 rfl (c_X12_recoveredOf (E := E) (d := d - 1)   (by omega) (f_X12_claim x1 v) v h2) (by decide : kd 559 = (0, 9)) (show 559 < 572 by decide) rfl rfl (Nat.le_of_ble_eq_true rfl) (by omega) (by decide) (by decide) dX12_pays_8 (adV ?_) axN
  refine g_istore [(4, .int ((f_X12_recoveredOf (f_X12_claim x1 v) v))), (3, .int ((f_X12_claim x1 v))), (0, .ref (gX E + 559)), (1, .int x1), (2, .int x2)] dX12_pays_11 (by decide) rfl ?_
  refine g_aload_n 2 dX12_pays_13 rfl ?_
  refine r_get (.ref (gX E + 560)) f_X12_7_X12 rfl (by decide : kd 559 = (0, 9)) (show 559 < 572 by decide) dX12_pays_14 (fun _ => rfl) ?_
  refine g_bipush dX12_pays_17 (72 : Int32) (by decide) ?_
  refine g_bipush dX12_pays_19 (12 : Int32) (by decide) ?_
  refine g_iload_n 1 dX12_pays_21 rfl ?_
  refine g_imul dX12_pays_22 ?_
  refine g_iadd dX12_pays_23 ?_
  refine g_iconst dX12_pays_24 (4 : Int32) (by decide) ?_
  refine g_iadd dX12_pays_25 ?_
  refine g_dup2 dX12_pays_26 rfl rfl ?_
  obtain ⟨h3, hp⟩ := hp
  refine g_iald (by decide : kd 560 = (1, 300)) (show 560 < 572 by decide) h3 dX12_pays_27 ?_
  refine g_iload_n 4 dX12_pays_28 rfl ?_
  refine g_iadd dX12_pays_29 ?_
  obtain ⟨h4, hp⟩ := hp
  refine r_iast (by decide : kd 560 = (1, 300)) (show 560 < 572 by decide) h4 dX12_pays_30 ?_
  refine g_lv (lv' := [(0, .ref (gX E + 559)), (2, .int x2), (3, .int ((f_X12_claim x1 v))), (4, .int ((f_X12_recoveredOf (f_X12_claim x1 v) v)))]) [2, 4, 1, 0] rfl ?_
  exact w_X12_pays_31  hd    x2 (f_X12_claim x1 v) (f_X12_recoveredOf (f_X12_claim x1 v) v) (vM v 560 (((72 : Int32) + ((12 : Int32) * (f_X12_claim x1 v))) + (4 : Int32)).toNatClampNeg ((v.1 560 (((72 : Int32) + ((12 : Int32) * (f_X12_claim x1 v))) + (4 : Int32)).toNatClampNeg) + x2)) hp hQ
def f_X12_pays  (x1 : Int32) (x2 : Int32) (v : gV) : Int32 × gV := f_X12_pays_0 x1 x2 v
def p_X12_pays  (x1 : Int32) (x2 : Int32) (v : gV) : Prop := p_X12_pays_0 x1 x2 v
theorem c_X12_pays {E : gE} {d : Nat}   (hd : 3 ≤ d) (x1 : Int32) (x2 : Int32) (v : gV) (hp : p_X12_pays x1 x2 v) : CT E m_X12_pays d 0 0 [.ref (gX E + 559), .int x1, .int x2] (rS v) (Cq (.inl (some (.int ((f_X12_pays x1 x2 v).1)))) (f_X12_pays x1 x2 v).2) := CT.of ok_X12_pays rfl (Nat.le_of_ble_eq_true rfl) (w_X12_pays_0  hd x1 x2 v hp ⟨rfl, rfl⟩)
def f_X12_pay_33  (s0 : Int32) (v : gV) : Int32 × gV := (s0, v)
def p_X12_pay_33  (s0 : Int32) (v : gV) : Prop := True
set_option maxHeartbeats 4000000 in
set_option maxRecDepth 100000 in
theorem w_X12_pay_33 {E : gE} {d : Nat} {Q : gO → gS → Prop}   (hd : 4 ≤ d) (s0 : Int32) (v : gV) (hp : p_X12_pay_33   s0 v) (hQ : gqIV Q (f_X12_pay_33  s0 v)) : gG E m_X12_pay d Q 0 0 (rS v) 33 [] [.int s0] := by
  exact g_iret rfl dX12_pay_33 hQ
def f_X12_pay_30  (s0 : Int32) (v : gV) : Int32 × gV := f_X12_pay_33  ((f_X12_commit s0 v).1) (f_X12_commit s0 v).2
def p_X12_pay_30  (s0 : Int32) (v : gV) : Prop := (p_X12_commit s0 v) ∧ (p_X12_pay_33   ((f_X12_commit s0 v).1) (f_X12_commit s0 v).2)
set_option maxHeartbeats 4000000 in
set_option maxRecDepth 100000 in
theorem w_X12_pay_30 {E : gE} {d : Nat} {Q : gO → gS → Prop}   (hd : 4 ≤ d) (s0 : Int32) (v : gV) (hp : p_X12_pay_30   s0 v) (hQ : gqIV Q (f_X12_pay_30  s0 v)) : gG E m_X12_pay d Q 0 0 (rS v) 30 [] [.int s0, .ref (gX E + 559)] := by
  obtain ⟨h5, hp⟩ := hp
  refine g_callV (rest := []) s_X12_101_X12 rfl (c_X12_commit (E := E) (d := d - 1)   (by omega) s0 v h5) (by decide : kd 559 = (0, 9)) (show 559 < 572 by decide) rfl rfl (Nat.le_of_ble_eq_true rfl) (by omega) (by decide) (by decide) dX12_pay_30 (adV ?_) axN
  exact w_X12_pay_33  hd    ((f_X12_commit s0 v).1) (f_X12_commit s0 v).2 hp hQ
def f_X12_pay_20  (s0 : Int32) (v : gV) : Int32 × gV := f_X12_pay_33  s0 v
def p_X12_pay_20  (s0 : Int32) (v : gV) : Prop := p_X12_pay_33   s0 v
set_option maxHeartbeats 4000000 in
set_option maxRecDepth 100000 in
theorem w_X12_pay_20 {E : gE} {d : Nat} {Q : gO → gS → Prop}   (hd : 4 ≤ d) (s0 : Int32) (v : gV) (hp : p_X12_pay_20   s0 v) (hQ : gqIV Q (f_X12_pay_20  s0 v)) : gG E m_X12_pay d Q 0 0 (rS v) 20 [] [.int s0] := by
  refine g_goto 33 dX12_pay_20 (by decide) ?_
  exact w_X12_pay_33  hd    s0 v hp hQ
def f_X12_pay_4  (x1 : Int32) (x2 : Int32) (v : gV) : Int32 × gV := if (f_X12_cannotPay x1 x2 v) ≤ 0 then (f_X12_pay_30  ((f_X12_pays x1 x2 v).1) (f_X12_pays x1 x2 v).2) else (f_X12_pay_20  ((f_X12_fail (f_X12_cannotPay x1 x2 v) v).1) (f_X12_fail (f_X12_cannotPay x1 x2 v) v).2)
def p_X12_pay_4  (x1 : Int32) (x2 : Int32) (v : gV) : Prop := (p_X12_cannotPay x1 x2 v) ∧ ((((f_X12_cannotPay x1 x2 v) ≤ 0) → ((p_X12_pays x1 x2 v) ∧ (p_X12_pay_30   ((f_X12_pays x1 x2 v).1) (f_X12_pays x1 x2 v).2))) ∧ (¬ ((f_X12_cannotPay x1 x2 v) ≤ 0) → ((p_X12_fail (f_X12_cannotPay x1 x2 v) v) ∧ (p_X12_pay_20   ((f_X12_fail (f_X12_cannotPay x1 x2 v) v).1) (f_X12_fail (f_X12_cannotPay x1 x2 v) v).2))))
set_option maxHeartbeats 4000000 in
set_option maxRecDepth 100000 in
theorem w_X12_pay_4 {E : gE} {d : Nat} {Q : gO → gS → Prop}   (hd : 4 ≤ d) (x1 : Int32) (x2 : Int32) (v : gV) (hp : p_X12_pay_4   x1 x2 v) (hQ : gqIV Q (f_X12_pay_4  x1 x2 v)) : gG E m_X12_pay d Q 0 0 (rS v) 4 [(0, .ref (gX E + 559)), (1, .int x1), (2, .int x2)] [] := by
  refine g_aload_n 0 dX12_pay_4 rfl ?_
  refine g_iload_n 1 dX12_pay_5 rfl ?_
  refine g_iload_n 2 dX12_pay_6 rfl ?_
  obtain ⟨h2, hp⟩ := hp
  refine g_callV (rest := []) s_X12_173_X12 rfl (c_X12_cannotPay (E := E) (d := d - 1)   (by omega) x1 x2 v h2) (by decide : kd 559 = (0, 9)) (show 559 < 572 by decide) rfl rfl (Nat.le_of_ble_eq_true rfl) (by omega) (by decide) (by decide) dX12_pay_7 (adV ?_) axN
  refine g_istore_n [(3, .int ((f_X12_cannotPay x1 x2 v))), (0, .ref (gX E + 559)), (1, .int x1), (2, .int x2)] dX12_pay_10 rfl (by decide) rfl ?_
  refine g_iload_n 0 dX12_pay_11 rfl ?_
  refine g_if_le 23 dX12_pay_12 (by decide) (fun h3 => ?_) (fun h3 => ?_)
  · have hQ := qp (P := gqIV Q) h3 hQ
    have hp := hp.1 h3
    refine g_aload_n 1 dX12_pay_23 rfl ?_
    refine g_aload_n 1 dX12_pay_24 rfl ?_
    refine g_iload_n 2 dX12_pay_25 rfl ?_
    refine g_iload_n 3 dX12_pay_26 rfl ?_
    obtain ⟨h4, hp⟩ := hp
    refine g_callV (rest := [.ref (gX E + 559)]) s_X12_176_X12 rfl (c_X12_pays (E := E) (d := d - 1)   (by omega) x1 x2 v h4) (by decide : kd 559 = (0, 9)) (show 559 < 572 by decide) rfl rfl (Nat.le_of_ble_eq_true rfl) (by omega) (by decide) (by decide) dX12_pay_27 (adV ?_) axN
    refine g_lv (lv' := []) [] rfl ?_
    exact w_X12_pay_30  hd    ((f_X12_pays x1 x2 v).1) (f_X12_pays x1 x2 v).2 hp hQ
  · have hQ := qn (P := gqIV Q) h3 hQ
    have hp := hp.2 h3
    refine g_aload_n 1 dX12_pay_15 rfl ?_
    refine g_iload_n 0 dX12_pay_16 rfl ?_
    obtain ⟨h6, hp⟩ := hp
    refine g_callV (rest := []) s_X12_94_X12 rfl (c_X12_fail (E := E) (d := d - 1)   (by omega) (f_X12_cannotPay x1 x2 v) v h6) (by decide : kd 559 = (0, 9)) (show 559 < 572 by decide) rfl rfl (Nat.le_of_ble_eq_true rfl) (by omega) (by decide) (by decide) dX12_pay_17 (adV ?_) axN
    refine g_lv (lv' := []) [] rfl ?_
    exact w_X12_pay_20  hd    ((f_X12_fail (f_X12_cannotPay x1 x2 v) v).1) (f_X12_fail (f_X12_cannotPay x1 x2 v) v).2 hp hQ
def f_X12_pay_0  (x1 : Int32) (x2 : Int32) (v : gV) : Int32 × gV := f_X12_pay_4  x1 x2 (f_X12_begin  v)
def p_X12_pay_0  (x1 : Int32) (x2 : Int32) (v : gV) : Prop := (p_X12_begin  v) ∧ (p_X12_pay_4   x1 x2 (f_X12_begin  v))
set_option maxHeartbeats 4000000 in
set_option maxRecDepth 100000 in
theorem w_X12_pay_0 {E : gE} {d : Nat} {Q : gO → gS → Prop}   (hd : 4 ≤ d) (x1 : Int32) (x2 : Int32) (v : gV) (hp : p_X12_pay_0   x1 x2 v) (hQ : gqIV Q (f_X12_pay_0  x1 x2 v)) : gG E m_X12_pay d Q 0 0 (rS v) 0 [(0, .ref (gX E + 559)), (1, .int x1), (2, .int x2)] [] := by
  refine g_aload_n 0 dX12_pay_0 rfl ?_
  obtain ⟨h1, hp⟩ := hp
  refine g_callV (rest := []) s_X12_87_X12 rfl (c_X12_begin (E := E) (d := d - 1)   (by omega)  v h1) (by decide : kd 559 = (0, 9)) (show 559 < 572 by decide) rfl rfl (Nat.le_of_ble_eq_true rfl) (by omega) (by decide) (by decide) dX12_pay_1 (adN ?_) axN
  exact w_X12_pay_4  hd    x1 x2 (f_X12_begin  v) hp hQ
def f_X12_pay  (x1 : Int32) (x2 : Int32) (v : gV) : Int32 × gV := f_X12_pay_0 x1 x2 v
def p_X12_pay  (x1 : Int32) (x2 : Int32) (v : gV) : Prop := p_X12_pay_0 x1 x2 v
theorem c_X12_pay {E : gE} {d : Nat}   (hd : 4 ≤ d) (x1 : Int32) (x2 : Int32) (v : gV) (hp : p_X12_pay x1 x2 v) : CT E m_X12_pay d 0 0 [.ref (gX E + 559), .int x1, .int x2] (rS v) (Cq (.inl (some (.int ((f_X12_pay x1 x2 v).1)))) (f_X12_pay x1 x2 v).2) := CT.of ok_X12_pay rfl (Nat.le_of_ble_eq_true rfl) (w_X12_pay_0  hd x1 x2 v hp ⟨rfl, rfl⟩)
def f_X12_removesClaim_32  (x2 : Int32) (v : gV) : Int32 × gV := (x2, v)
def p_X12_removesClaim_32  (x2 : Int32) (v : gV) : Prop := True
set_option maxHeartbeats 4000000 in
set_option maxRecDepth 100000 in
theorem w_X12_removesClaim_32 {E : gE} {d : Nat} {Q : gO → gS → Prop}   (hd : 1 ≤ d) (x2 : Int32) (v : gV) (hp : p_X12_removesClaim_32   x2 v) (hQ : gqIV Q (f_X12_removesClaim_32  x2 v)) : gG E m_X12_removesClaim d Q 0 0 (rS v) 32 [(2, .int x2)] [] := by
  refine g_iload_n 0 dX12_removesClaim_32 rfl ?_
  exact g_iret rfl dX12_removesClaim_33 hQ
def f_X12_removesClaim_17  (x1 : Int32) (x2 : Int32) (v : gV) : Int32 × gV := f_X12_removesClaim_32  x2 (f_X12_removeRow (72 : Int32) (12 : Int32) x1 (v.1 560 (1 : Int32).toNatClampNeg) v)
def p_X12_removesClaim_17  (x1 : Int32) (x2 : Int32) (v : gV) : Prop := (p_X12_removeRow (72 : Int32) (12 : Int32) x1 (v.1 560 (1 : Int32).toNatClampNeg) v) ∧ (p_X12_removesClaim_32   x2 (f_X12_removeRow (72 : Int32) (12 : Int32) x1 (v.1 560 (1 : Int32).toNatClampNeg) v))
set_option maxHeartbeats 4000000 in
set_option maxRecDepth 100000 in
theorem w_X12_removesClaim_17 {E : gE} {d : Nat} {Q : gO → gS → Prop}   (hd : 1 ≤ d) (x1 : Int32) (x2 : Int32) (v : gV) (hp : p_X12_removesClaim_17   x1 x2 v) (hQ : gqIV Q (f_X12_removesClaim_17  x1 x2 v)) : gG E m_X12_removesClaim d Q 0 0 (rS v) 17 [(0, .ref (gX E + 559)), (1, .int x1), (2, .int x2)] [] := by
  refine g_aload_n 0 dX12_removesClaim_17 rfl ?_
  refine g_bipush dX12_removesClaim_18 (72 : Int32) (by decide) ?_
  refine g_bipush dX12_removesClaim_20 (12 : Int32) (by decide) ?_
  refine g_iload_n 1 dX12_removesClaim_22 rfl ?_
  refine g_aload_n 0 dX12_removesClaim_23 rfl ?_
  refine r_get (.ref (gX E + 560)) f_X12_7_X12 rfl (by decide : kd 559 = (0, 9)) (show 559 < 572 by decide) dX12_removesClaim_24 (fun _ => rfl) ?_
  refine g_iconst dX12_removesClaim_27 (1 : Int32) (by decide) ?_
  refine g_iald (by decide : kd 560 = (1, 300)) (show 560 < 572 by decide) (show ¬ (_ ∨ _) by decide) dX12_removesClaim_28 ?_
  obtain ⟨h2, hp⟩ := hp
  refine g_callV (rest := []) s_X12_117_X12 rfl (c_X12_removeRow (E := E) (d := d - 1)   (by omega) (72 : Int32) (12 : Int32) x1 (v.1 560 (1 : Int32).toNatClampNeg) v h2) (by decide : kd 559 = (0, 9)) (show 559 < 572 by decide) rfl rfl (Nat.le_of_ble_eq_true rfl) (by omega) (by decide) (by decide) dX12_removesClaim_29 (adN ?_) axN
  refine g_lv (lv' := [(2, .int x2)]) [2] rfl ?_
  exact w_X12_removesClaim_32  hd    x2 (f_X12_removeRow (72 : Int32) (12 : Int32) x1 (v.1 560 (1 : Int32).toNatClampNeg) v) hp hQ
def f_X12_removesClaim_0  (x1 : Int32) (v : gV) : Int32 × gV := f_X12_removesClaim_17  x1 (f_X12_c x1 (3 : Int32) v) (vM v 560 (1 : Int32).toNatClampNeg ((v.1 560 (1 : Int32).toNatClampNeg) - (1 : Int32)))
def p_X12_removesClaim_0  (x1 : Int32) (v : gV) : Prop := (p_X12_c x1 (3 : Int32) v) ∧ (p_X12_removesClaim_17   x1 (f_X12_c x1 (3 : Int32) v) (vM v 560 (1 : Int32).toNatClampNeg ((v.1 560 (1 : Int32).toNatClampNeg) - (1 : Int32))))
set_option maxHeartbeats 4000000 in
set_option maxRecDepth 100000 in
theorem w_X12_removesClaim_0 {E : gE} {d : Nat} {Q : gO → gS → Prop}   (hd : 1 ≤ d) (x1 : Int32) (v : gV) (hp : p_X12_removesClaim_0   x1 v) (hQ : gqIV Q (f_X12_removesClaim_0  x1 v)) : gG E m_X12_removesClaim d Q 0 0 (rS v) 0 [(0, .ref (gX E + 559)), (1, .int x1)] [] := by
  refine g_aload_n 0 dX12_removesClaim_0 rfl ?_
  refine g_iload_n 1 dX12_removesClaim_1 rfl ?_
  refine g_iconst dX12_removesClaim_2 (3 : Int32) (by decide) ?_
  obtain ⟨h1, hp⟩ := hp
  refine g_callV (rest := []) s_X12_104_X12 rfl (c_X12_c (E := E) (d := d - 1)   (by omega) x1 (3 : Int32) v h1) (by decide : kd 559 = (0, 9)) (show 559 < 572 by decide) rfl rfl (Nat.le_of_ble_eq_true rfl) (by omega) (by decide) (by decide) dX12_removesClaim_3 (adV ?_) axN
  refine g_istore_n [(2, .int ((f_X12_c x1 (3 : Int32) v))), (0, .ref (gX E + 559)), (1, .int x1)] dX12_removesClaim_6 rfl (by decide) rfl ?_
  refine g_aload_n 1 dX12_removesClaim_7 rfl ?_
  refine r_get (.ref (gX E + 560)) f_X12_7_X12 rfl (by decide : kd 559 = (0, 9)) (show 559 < 572 by decide) dX12_removesClaim_8 (fun _ => rfl) ?_
  refine g_iconst dX12_removesClaim_11 (1 : Int32) (by decide) ?_
  refine g_dup2 dX12_removesClaim_12 rfl rfl ?_
  refine g_iald (by decide : kd 560 = (1, 300)) (show 560 < 572 by decide) (show ¬ (_ ∨ _) by decide) dX12_removesClaim_13 ?_
  refine g_iconst dX12_removesClaim_14 (1 : Int32) (by decide) ?_
  refine g_isub dX12_removesClaim_15 ?_
  refine r_iast (by decide : kd 560 = (1, 300)) (show 560 < 572 by decide) (show ¬ (_ ∨ _) by decide) dX12_removesClaim_16 ?_
  refine g_lv (lv' := [(0, .ref (gX E + 559)), (1, .int x1), (2, .int ((f_X12_c x1 (3 : Int32) v)))]) [1, 2, 0] rfl ?_
  exact w_X12_removesClaim_17  hd    x1 (f_X12_c x1 (3 : Int32) v) (vM v 560 (1 : Int32).toNatClampNeg ((v.1 560 (1 : Int32).toNatClampNeg) - (1 : Int32))) hp hQ
def f_X12_removesClaim  (x1 : Int32) (v : gV) : Int32 × gV := f_X12_removesClaim_0 x1 v
def p_X12_removesClaim  (x1 : Int32) (v : gV) : Prop := p_X12_removesClaim_0 x1 v
theorem c_X12_removesClaim {E : gE} {d : Nat}   (hd : 1 ≤ d) (x1 : Int32) (v : gV) (hp : p_X12_removesClaim x1 v) : CT E m_X12_removesClaim d 0 0 [.ref (gX E + 559), .int x1] (rS v) (Cq (.inl (some (.int ((f_X12_removesClaim x1 v).1)))) (f_X12_removesClaim x1 v).2) := CT.of ok_X12_removesClaim rfl (Nat.le_of_ble_eq_true rfl) (w_X12_removesClaim_0  hd x1 v hp ⟨rfl, rfl⟩)
def f_X12_cannotClose_40  (s0 : Int32) (v : gV) : Int32 := s0
def p_X12_cannotClose_40  (s0 : Int32) (v : gV) : Prop := True
set_option maxHeartbeats 4000000 in
set_option maxRecDepth 100000 in
theorem w_X12_cannotClose_40 {E : gE} {d : Nat} {Q : gO → gS → Prop}   (hd : 2 ≤ d) (s0 : Int32) (v : gV) (hp : p_X12_cannotClose_40   s0 v) (hQ : gqI Q v (f_X12_cannotClose_40  s0 v)) : gG E m_X12_cannotClose d Q 0 0 (rS v) 40 [] [.int s0] := by
  exact g_iret rfl dX12_cannotClose_40 hQ
def f_X12_cannotClose_0  (x1 : Int32) (v : gV) : Int32 := if 0 ≤ (f_X12_claim x1 v) then (if (f_X12_c (f_X12_claim x1 v) (3 : Int32) v) ≤ (f_X12_c (f_X12_claim x1 v) (4 : Int32) v) then (f_X12_cannotClose_40  (0 : Int32) v) else (f_X12_cannotClose_40  (2 : Int32) v)) else (f_X12_cannotClose_40  (1 : Int32) v)
def p_X12_cannotClose_0  (x1 : Int32) (v : gV) : Prop := (p_X12_claim x1 v) ∧ (((0 ≤ (f_X12_claim x1 v)) → ((p_X12_claim x1 v) ∧ ((p_X12_c (f_X12_claim x1 v) (4 : Int32) v) ∧ ((p_X12_claim x1 v) ∧ ((p_X12_c (f_X12_claim x1 v) (3 : Int32) v) ∧ ((((f_X12_c (f_X12_claim x1 v) (3 : Int32) v) ≤ (f_X12_c (f_X12_claim x1 v) (4 : Int32) v)) → (p_X12_cannotClose_40   (0 : Int32) v)) ∧ (¬ ((f_X12_c (f_X12_claim x1 v) (3 : Int32) v) ≤ (f_X12_c (f_X12_claim x1 v) (4 : Int32) v)) → (p_X12_cannotClose_40   (2 : Int32) v)))))))) ∧ (¬ (0 ≤ (f_X12_claim x1 v)) → (p_X12_cannotClose_40   (1 : Int32) v)))
set_option maxHeartbeats 4000000 in
set_option maxRecDepth 100000 in
theorem w_X12_cannotClose_0 {E : gE} {d : Nat} {Q : gO → gS → Prop}   (hd : 2 ≤ d) (x1 : Int32) (v : gV) (hp : p_X12_cannotClose_0   x1 v) (hQ : gqI Q v (f_X12_cannotClose_0  x1 v)) : gG E m_X12_cannotClose d Q 0 0 (rS v) 0 [(0, .ref (gX E + 559)), (1, .int x1)] [] := by
  refine g_aload_n 0 dX12_cannotClose_0 rfl ?_
  refine g_iload_n 1 dX12_cannotClose_1 rfl ?_
  obtain ⟨h1, hp⟩ := hp
  refine g_callV (rest := []) s_X12_167_X12 rfl (c_X12_claim (E := E) (d := d - 1)   (by omega) x1 v h1) (by decide : kd 559 = (0, 9)) (show 559 < 572 by decide) rfl rfl (Nat.le_of_ble_eq_true rfl) (by omega) (by decide) (by decide) dX12_cannotClose_2 (adV ?_) axN
  refine g_if_ge 12 dX12_cannotClose_5 (by decide) (fun h2 => ?_) (fun h2 => ?_)
  · have hQ := qp (P := gqI Q v) h2 hQ
    have hp := hp.1 h2
    refine g_aload_n 0 dX12_cannotClose_12 rfl ?_
    refine g_aload_n 0 dX12_cannotClose_13 rfl ?_
    refine g_iload_n 1 dX12_cannotClose_14 rfl ?_
    obtain ⟨h3, hp⟩ := hp
    refine g_callV (rest := [.ref (gX E + 559)]) s_X12_167_X12 rfl (c_X12_claim (E := E) (d := d - 1)   (by omega) x1 v h3) (by decide : kd 559 = (0, 9)) (show 559 < 572 by decide) rfl rfl (Nat.le_of_ble_eq_true rfl) (by omega) (by decide) (by decide) dX12_cannotClose_15 (adV ?_) axN
    refine g_iconst dX12_cannotClose_18 (4 : Int32) (by decide) ?_
    obtain ⟨h4, hp⟩ := hp
    refine g_callV (rest := []) s_X12_104_X12 rfl (c_X12_c (E := E) (d := d - 1)   (by omega) (f_X12_claim x1 v) (4 : Int32) v h4) (by decide : kd 559 = (0, 9)) (show 559 < 572 by decide) rfl rfl (Nat.le_of_ble_eq_true rfl) (by omega) (by decide) (by decide) dX12_cannotClose_19 (adV ?_) axN
    refine g_aload_n 0 dX12_cannotClose_22 rfl ?_
    refine g_aload_n 0 dX12_cannotClose_23 rfl ?_
    refine g_iload_n 1 dX12_cannotClose_24 rfl ?_
    obtain ⟨h5, hp⟩ := hp
    refine g_callV (rest := [.ref (gX E + 559), .int ((f_X12_c (f_X12_claim x1 v) (4 : Int32) v))]) s_X12_167_X12 rfl (c_X12_claim (E := E) (d := d - 1)   (by omega) x1 v h5) (by decide : kd 559 = (0, 9)) (show 559 < 572 by decide) rfl rfl (Nat.le_of_ble_eq_true rfl) (by omega) (by decide) (by decide) dX12_cannotClose_25 (adV ?_) axN
    refine g_iconst dX12_cannotClose_28 (3 : Int32) (by decide) ?_
    obtain ⟨h6, hp⟩ := hp
    refine g_callV (rest := [.int ((f_X12_c (f_X12_claim x1 v) (4 : Int32) v))]) s_X12_104_X12 rfl (c_X12_c (E := E) (d := d - 1)   (by omega) (f_X12_claim x1 v) (3 : Int32) v h6) (by decide : kd 559 = (0, 9)) (show 559 < 572 by decide) rfl rfl (Nat.le_of_ble_eq_true rfl) (by omega) (by decide) (by decide) dX12_cannotClose_29 (adV ?_) axN
    refine g_icmp_ge 39 dX12_cannotClose_32 (by decide) (fun h7 => ?_) (fun h7 => ?_)
    · have hQ := qp (P := gqI Q v) h7 hQ
      have hp := hp.1 h7
      refine g_iconst dX12_cannotClose_39 (0 : Int32) (by decide) ?_
      refine g_lv (lv' := []) [] rfl ?_
      exact w_X12_cannotClose_40  hd    (0 : Int32) v hp hQ
    · have hQ := qn (P := gqI Q v) h7 hQ
      have hp := hp.2 h7
      refine g_iconst dX12_cannotClose_35 (2 : Int32) (by decide) ?_
      refine g_goto 40 dX12_cannotClose_36 (by decide) ?_
      refine g_lv (lv' := []) [] rfl ?_
      exact w_X12_cannotClose_40  hd    (2 : Int32) v hp hQ
  · have hQ := qn (P := gqI Q v) h2 hQ
    have hp := hp.2 h2
    refine g_iconst dX12_cannotClose_8 (1 : Int32) (by decide) ?_
    refine g_goto 40 dX12_cannotClose_9 (by decide) ?_
    refine g_lv (lv' := []) [] rfl ?_
    exact w_X12_cannotClose_40  hd    (1 : Int32) v hp hQ
def f_X12_cannotClose  (x1 : Int32) (v : gV) : Int32 := f_X12_cannotClose_0 x1 v
def p_X12_cannotClose  (x1 : Int32) (v : gV) : Prop := p_X12_cannotClose_0 x1 v
theorem c_X12_cannotClose {E : gE} {d : Nat}   (hd : 2 ≤ d) (x1 : Int32) (v : gV) (hp : p_X12_cannotClose x1 v) : CT E m_X12_cannotClose d 0 0 [.ref (gX E + 559), .int x1] (rS v) (Cq (.inl (some (.int (f_X12_cannotClose x1 v)))) v) := CT.of ok_X12_cannotClose rfl (Nat.le_of_ble_eq_true rfl) (w_X12_cannotClose_0  hd x1 v hp ⟨rfl, rfl⟩)
def f_X12_closeClaim_35  (s0 : Int32) (v : gV) : Int32 × gV := (s0, v)
def p_X12_closeClaim_35  (s0 : Int32) (v : gV) : Prop := True
set_option maxHeartbeats 4000000 in
set_option maxRecDepth 100000 in
theorem w_X12_closeClaim_35 {E : gE} {d : Nat} {Q : gO → gS → Prop}   (hd : 3 ≤ d) (s0 : Int32) (v : gV) (hp : p_X12_closeClaim_35   s0 v) (hQ : gqIV Q (f_X12_closeClaim_35  s0 v)) : gG E m_X12_closeClaim d Q 0 0 (rS v) 35 [] [.int s0] := by
  exact g_iret rfl dX12_closeClaim_35 hQ
def f_X12_closeClaim_32  (s0 : Int32) (v : gV) : Int32 × gV := f_X12_closeClaim_35  ((f_X12_commit s0 v).1) (f_X12_commit s0 v).2
def p_X12_closeClaim_32  (s0 : Int32) (v : gV) : Prop := (p_X12_commit s0 v) ∧ (p_X12_closeClaim_35   ((f_X12_commit s0 v).1) (f_X12_commit s0 v).2)
set_option maxHeartbeats 4000000 in
set_option maxRecDepth 100000 in
theorem w_X12_closeClaim_32 {E : gE} {d : Nat} {Q : gO → gS → Prop}   (hd : 3 ≤ d) (s0 : Int32) (v : gV) (hp : p_X12_closeClaim_32   s0 v) (hQ : gqIV Q (f_X12_closeClaim_32  s0 v)) : gG E m_X12_closeClaim d Q 0 0 (rS v) 32 [] [.int s0, .ref (gX E + 559)] := by
  obtain ⟨h6, hp⟩ := hp
  refine g_callV (rest := []) s_X12_101_X12 rfl (c_X12_commit (E := E) (d := d - 1)   (by omega) s0 v h6) (by decide : kd 559 = (0, 9)) (show 559 < 572 by decide) rfl rfl (Nat.le_of_ble_eq_true rfl) (by omega) (by decide) (by decide) dX12_closeClaim_32 (adV ?_) axN
  exact w_X12_closeClaim_35  hd    ((f_X12_commit s0 v).1) (f_X12_commit s0 v).2 hp hQ
def f_X12_closeClaim_19  (s0 : Int32) (v : gV) : Int32 × gV := f_X12_closeClaim_35  s0 v
def p_X12_closeClaim_19  (s0 : Int32) (v : gV) : Prop := p_X12_closeClaim_35   s0 v
set_option maxHeartbeats 4000000 in
set_option maxRecDepth 100000 in
theorem w_X12_closeClaim_19 {E : gE} {d : Nat} {Q : gO → gS → Prop}   (hd : 3 ≤ d) (s0 : Int32) (v : gV) (hp : p_X12_closeClaim_19   s0 v) (hQ : gqIV Q (f_X12_closeClaim_19  s0 v)) : gG E m_X12_closeClaim d Q 0 0 (rS v) 19 [] [.int s0] := by
  refine g_goto 35 dX12_closeClaim_19 (by decide) ?_
  exact w_X12_closeClaim_35  hd    s0 v hp hQ
def f_X12_closeClaim_4  (x1 : Int32) (v : gV) : Int32 × gV := if (f_X12_cannotClose x1 v) ≤ 0 then (f_X12_closeClaim_32  ((f_X12_removesClaim (f_X12_claim x1 v) v).1) (f_X12_removesClaim (f_X12_claim x1 v) v).2) else (f_X12_closeClaim_19  ((f_X12_fail (f_X12_cannotClose x1 v) v).1) (f_X12_fail (f_X12_cannotClose x1 v) v).2)
def p_X12_closeClaim_4  (x1 : Int32) (v : gV) : Prop := (p_X12_cannotClose x1 v) ∧ ((((f_X12_cannotClose x1 v) ≤ 0) → ((p_X12_claim x1 v) ∧ ((p_X12_removesClaim (f_X12_claim x1 v) v) ∧ (p_X12_closeClaim_32   ((f_X12_removesClaim (f_X12_claim x1 v) v).1) (f_X12_removesClaim (f_X12_claim x1 v) v).2)))) ∧ (¬ ((f_X12_cannotClose x1 v) ≤ 0) → ((p_X12_fail (f_X12_cannotClose x1 v) v) ∧ (p_X12_closeClaim_19   ((f_X12_fail (f_X12_cannotClose x1 v) v).1) (f_X12_fail (f_X12_cannotClose x1 v) v).2))))
set_option maxHeartbeats 4000000 in
set_option maxRecDepth 100000 in
theorem w_X12_closeClaim_4 {E : gE} {d : Nat} {Q : gO → gS → Prop}   (hd : 3 ≤ d) (x1 : Int32) (v : gV) (hp : p_X12_closeClaim_4   x1 v) (hQ : gqIV Q (f_X12_closeClaim_4  x1 v)) : gG E m_X12_closeClaim d Q 0 0 (rS v) 4 [(0, .ref (gX E + 559)), (1, .int x1)] [] := by
  refine g_aload_n 0 dX12_closeClaim_4 rfl ?_
  refine g_iload_n 1 dX12_closeClaim_5 rfl ?_
  obtain ⟨h2, hp⟩ := hp
  refine g_callV (rest := []) s_X12_179_X12 rfl (c_X12_cannotClose (E := E) (d := d - 1)   (by omega) x1 v h2) (by decide : kd 559 = (0, 9)) (show 559 < 572 by decide) rfl rfl (Nat.le_of_ble_eq_true rfl) (by omega) (by decide) (by decide) dX12_closeClaim_6 (adV ?_) axN
  refine g_istore_n [(2, .int ((f_X12_cannotClose x1 v))), (0, .ref (gX E + 559)), (1, .int x1)] dX12_closeClaim_9 rfl (by decide) rfl ?_
  refine g_iload_n 0 dX12_closeClaim_10 rfl ?_
  refine g_if_le 22 dX12_closeClaim_11 (by decide) (fun h3 => ?_) (fun h3 => ?_)
  · have hQ := qp (P := gqIV Q) h3 hQ
    have hp := hp.1 h3
    refine g_aload_n 1 dX12_closeClaim_22 rfl ?_
    refine g_aload_n 1 dX12_closeClaim_23 rfl ?_
    refine g_aload_n 1 dX12_closeClaim_24 rfl ?_
    refine g_iload_n 2 dX12_closeClaim_25 rfl ?_
    obtain ⟨h4, hp⟩ := hp
    refine g_callV (rest := [.ref (gX E + 559), .ref (gX E + 559)]) s_X12_167_X12 rfl (c_X12_claim (E := E) (d := d - 1)   (by omega) x1 v h4) (by decide : kd 559 = (0, 9)) (show 559 < 572 by decide) rfl rfl (Nat.le_of_ble_eq_true rfl) (by omega) (by decide) (by decide) dX12_closeClaim_26 (adV ?_) axN
    obtain ⟨h5, hp⟩ := hp
    refine g_callV (rest := [.ref (gX E + 559)]) s_X12_182_X12 rfl (c_X12_removesClaim (E := E) (d := d - 1)   (by omega) (f_X12_claim x1 v) v h5) (by decide : kd 559 = (0, 9)) (show 559 < 572 by decide) rfl rfl (Nat.le_of_ble_eq_true rfl) (by omega) (by decide) (by decide) dX12_closeClaim_29 (adV ?_) axN
    refine g_lv (lv' := []) [] rfl ?_
    exact w_X12_closeClaim_32  hd    ((f_X12_removesClaim (f_X12_claim x1 v) v).1) (f_X12_removesClaim (f_X12_claim x1 v) v).2 hp hQ
  · have hQ := qn (P := gqIV Q) h3 hQ
    have hp := hp.2 h3
    refine g_aload_n 1 dX12_closeClaim_14 rfl ?_
    refine g_iload_n 0 dX12_closeClaim_15 rfl ?_
    obtain ⟨h7, hp⟩ := hp
    refine g_callV (rest := []) s_X12_94_X12 rfl (c_X12_fail (E := E) (d := d - 1)   (by omega) (f_X12_cannotClose x1 v) v h7) (by decide : kd 559 = (0, 9)) (show 559 < 572 by decide) rfl rfl (Nat.le_of_ble_eq_true rfl) (by omega) (by decide) (by decide) dX12_closeClaim_16 (adV ?_) axN
    refine g_lv (lv' := []) [] rfl ?_
    exact w_X12_closeClaim_19  hd    ((f_X12_fail (f_X12_cannotClose x1 v) v).1) (f_X12_fail (f_X12_cannotClose x1 v) v).2 hp hQ
def f_X12_closeClaim_0  (x1 : Int32) (v : gV) : Int32 × gV := f_X12_closeClaim_4  x1 (f_X12_begin  v)
def p_X12_closeClaim_0  (x1 : Int32) (v : gV) : Prop := (p_X12_begin  v) ∧ (p_X12_closeClaim_4   x1 (f_X12_begin  v))
set_option maxHeartbeats 4000000 in
set_option maxRecDepth 100000 in
theorem w_X12_closeClaim_0 {E : gE} {d : Nat} {Q : gO → gS → Prop}   (hd : 3 ≤ d) (x1 : Int32) (v : gV) (hp : p_X12_closeClaim_0   x1 v) (hQ : gqIV Q (f_X12_closeClaim_0  x1 v)) : gG E m_X12_closeClaim d Q 0 0 (rS v) 0 [(0, .ref (gX E + 559)), (1, .int x1)] [] := by
  refine g_aload_n 0 dX12_closeClaim_0 rfl ?_
  obtain ⟨h1, hp⟩ := hp
  refine g_callV (rest := []) s_X12_87_X12 rfl (c_X12_begin (E := E) (d := d - 1)   (by omega)  v h1) (by decide : kd 559 = (0, 9)) (show 559 < 572 by decide) rfl rfl (Nat.le_of_ble_eq_true rfl) (by omega) (by decide) (by decide) dX12_closeClaim_1 (adN ?_) axN
  exact w_X12_closeClaim_4  hd    x1 (f_X12_begin  v) hp hQ
def f_X12_closeClaim  (x1 : Int32) (v : gV) : Int32 × gV := f_X12_closeClaim_0 x1 v
def p_X12_closeClaim  (x1 : Int32) (v : gV) : Prop := p_X12_closeClaim_0 x1 v
theorem c_X12_closeClaim {E : gE} {d : Nat}   (hd : 3 ≤ d) (x1 : Int32) (v : gV) (hp : p_X12_closeClaim x1 v) : CT E m_X12_closeClaim d 0 0 [.ref (gX E + 559), .int x1] (rS v) (Cq (.inl (some (.int ((f_X12_closeClaim x1 v).1)))) (f_X12_closeClaim x1 v).2) := CT.of ok_X12_closeClaim rfl (Nat.le_of_ble_eq_true rfl) (w_X12_closeClaim_0  hd x1 v hp ⟨rfl, rfl⟩)
def f_X12_cannotWaive_30  (s0 : Int32) (v : gV) : Int32 := s0
def p_X12_cannotWaive_30  (s0 : Int32) (v : gV) : Prop := True
set_option maxHeartbeats 4000000 in
set_option maxRecDepth 100000 in
theorem w_X12_cannotWaive_30 {E : gE} {d : Nat} {Q : gO → gS → Prop}   (hd : 2 ≤ d) (s0 : Int32) (v : gV) (hp : p_X12_cannotWaive_30   s0 v) (hQ : gqI Q v (f_X12_cannotWaive_30  s0 v)) : gG E m_X12_cannotWaive d Q 0 0 (rS v) 30 [] [.int s0] := by
  exact g_iret rfl dX12_cannotWaive_30 hQ
def f_X12_cannotWaive_0  (x1 : Int32) (v : gV) : Int32 := if 0 ≤ (f_X12_claim x1 v) then (if (f_X12_c (f_X12_claim x1 v) (4 : Int32) v) ≤ 0 then (f_X12_cannotWaive_30  (0 : Int32) v) else (f_X12_cannotWaive_30  (2 : Int32) v)) else (f_X12_cannotWaive_30  (1 : Int32) v)
def p_X12_cannotWaive_0  (x1 : Int32) (v : gV) : Prop := (p_X12_claim x1 v) ∧ (((0 ≤ (f_X12_claim x1 v)) → ((p_X12_claim x1 v) ∧ ((p_X12_c (f_X12_claim x1 v) (4 : Int32) v) ∧ ((((f_X12_c (f_X12_claim x1 v) (4 : Int32) v) ≤ 0) → (p_X12_cannotWaive_30   (0 : Int32) v)) ∧ (¬ ((f_X12_c (f_X12_claim x1 v) (4 : Int32) v) ≤ 0) → (p_X12_cannotWaive_30   (2 : Int32) v)))))) ∧ (¬ (0 ≤ (f_X12_claim x1 v)) → (p_X12_cannotWaive_30   (1 : Int32) v)))
set_option maxHeartbeats 4000000 in
set_option maxRecDepth 100000 in
theorem w_X12_cannotWaive_0 {E : gE} {d : Nat} {Q : gO → gS → Prop}   (hd : 2 ≤ d) (x1 : Int32) (v : gV) (hp : p_X12_cannotWaive_0   x1 v) (hQ : gqI Q v (f_X12_cannotWaive_0  x1 v)) : gG E m_X12_cannotWaive d Q 0 0 (rS v) 0 [(0, .ref (gX E + 559)), (1, .int x1)] [] := by
  refine g_aload_n 0 dX12_cannotWaive_0 rfl ?_
  refine g_iload_n 1 dX12_cannotWaive_1 rfl ?_
  obtain ⟨h1, hp⟩ := hp
  refine g_callV (rest := []) s_X12_167_X12 rfl (c_X12_claim (E := E) (d := d - 1)   (by omega) x1 v h1) (by decide : kd 559 = (0, 9)) (show 559 < 572 by decide) rfl rfl (Nat.le_of_ble_eq_true rfl) (by omega) (by decide) (by decide) dX12_cannotWaive_2 (adV ?_) axN
  refine g_if_ge 12 dX12_cannotWaive_5 (by decide) (fun h2 => ?_) (fun h2 => ?_)
  · have hQ := qp (P := gqI Q v) h2 hQ
    have hp := hp.1 h2
    refine g_aload_n 0 dX12_cannotWaive_12 rfl ?_
    refine g_aload_n 0 dX12_cannotWaive_13 rfl ?_
    refine g_iload_n 1 dX12_cannotWaive_14 rfl ?_
    obtain ⟨h3, hp⟩ := hp
    refine g_callV (rest := [.ref (gX E + 559)]) s_X12_167_X12 rfl (c_X12_claim (E := E) (d := d - 1)   (by omega) x1 v h3) (by decide : kd 559 = (0, 9)) (show 559 < 572 by decide) rfl rfl (Nat.le_of_ble_eq_true rfl) (by omega) (by decide) (by decide) dX12_cannotWaive_15 (adV ?_) axN
    refine g_iconst dX12_cannotWaive_18 (4 : Int32) (by decide) ?_
    obtain ⟨h4, hp⟩ := hp
    refine g_callV (rest := []) s_X12_104_X12 rfl (c_X12_c (E := E) (d := d - 1)   (by omega) (f_X12_claim x1 v) (4 : Int32) v h4) (by decide : kd 559 = (0, 9)) (show 559 < 572 by decide) rfl rfl (Nat.le_of_ble_eq_true rfl) (by omega) (by decide) (by decide) dX12_cannotWaive_19 (adV ?_) axN
    refine g_if_le 29 dX12_cannotWaive_22 (by decide) (fun h5 => ?_) (fun h5 => ?_)
    · have hQ := qp (P := gqI Q v) h5 hQ
      have hp := hp.1 h5
      refine g_iconst dX12_cannotWaive_29 (0 : Int32) (by decide) ?_
      refine g_lv (lv' := []) [] rfl ?_
      exact w_X12_cannotWaive_30  hd    (0 : Int32) v hp hQ
    · have hQ := qn (P := gqI Q v) h5 hQ
      have hp := hp.2 h5
      refine g_iconst dX12_cannotWaive_25 (2 : Int32) (by decide) ?_
      refine g_goto 30 dX12_cannotWaive_26 (by decide) ?_
      refine g_lv (lv' := []) [] rfl ?_
      exact w_X12_cannotWaive_30  hd    (2 : Int32) v hp hQ
  · have hQ := qn (P := gqI Q v) h2 hQ
    have hp := hp.2 h2
    refine g_iconst dX12_cannotWaive_8 (1 : Int32) (by decide) ?_
    refine g_goto 30 dX12_cannotWaive_9 (by decide) ?_
    refine g_lv (lv' := []) [] rfl ?_
    exact w_X12_cannotWaive_30  hd    (1 : Int32) v hp hQ
def f_X12_cannotWaive  (x1 : Int32) (v : gV) : Int32 := f_X12_cannotWaive_0 x1 v
def p_X12_cannotWaive  (x1 : Int32) (v : gV) : Prop := p_X12_cannotWaive_0 x1 v
theorem c_X12_cannotWaive {E : gE} {d : Nat}   (hd : 2 ≤ d) (x1 : Int32) (v : gV) (hp : p_X12_cannotWaive x1 v) : CT E m_X12_cannotWaive d 0 0 [.ref (gX E + 559), .int x1] (rS v) (Cq (.inl (some (.int (f_X12_cannotWaive x1 v)))) v) := CT.of ok_X12_cannotWaive rfl (Nat.le_of_ble_eq_true rfl) (w_X12_cannotWaive_0  hd x1 v hp ⟨rfl, rfl⟩)
def f_X12_waives_88  (s0 : Int32) (v : gV) : Int32 × gV := (s0, v)
def p_X12_waives_88  (s0 : Int32) (v : gV) : Prop := True
set_option maxHeartbeats 4000000 in
set_option maxRecDepth 100000 in
theorem w_X12_waives_88 {E : gE} {d : Nat} {Q : gO → gS → Prop}   (hd : 2 ≤ d) (s0 : Int32) (v : gV) (hp : p_X12_waives_88   s0 v) (hQ : gqIV Q (f_X12_waives_88  s0 v)) : gG E m_X12_waives d Q 0 0 (rS v) 88 [] [.int s0] := by
  exact g_iret rfl dX12_waives_88 hQ
def f_X12_waives_83  (x2 : Int32) (v : gV) : Int32 × gV := f_X12_waives_88  ((f_X12_removesClaim x2 v).1) (f_X12_removesClaim x2 v).2
def p_X12_waives_83  (x2 : Int32) (v : gV) : Prop := (p_X12_removesClaim x2 v) ∧ (p_X12_waives_88   ((f_X12_removesClaim x2 v).1) (f_X12_removesClaim x2 v).2)
set_option maxHeartbeats 4000000 in
set_option maxRecDepth 100000 in
theorem w_X12_waives_83 {E : gE} {d : Nat} {Q : gO → gS → Prop}   (hd : 2 ≤ d) (x2 : Int32) (v : gV) (hp : p_X12_waives_83   x2 v) (hQ : gqIV Q (f_X12_waives_83  x2 v)) : gG E m_X12_waives d Q 0 0 (rS v) 83 [(0, .ref (gX E + 559)), (2, .int x2)] [] := by
  refine g_aload_n 0 dX12_waives_83 rfl ?_
  refine g_iload_n 1 dX12_waives_84 rfl ?_
  obtain ⟨h8, hp⟩ := hp
  refine g_callV (rest := []) s_X12_182_X12 rfl (c_X12_removesClaim (E := E) (d := d - 1)   (by omega) x2 v h8) (by decide : kd 559 = (0, 9)) (show 559 < 572 by decide) rfl rfl (Nat.le_of_ble_eq_true rfl) (by omega) (by decide) (by decide) dX12_waives_85 (adV ?_) axN
  refine g_lv (lv' := []) [] rfl ?_
  exact w_X12_waives_88  hd    ((f_X12_removesClaim x2 v).1) (f_X12_removesClaim x2 v).2 hp hQ
def f_X12_waives_44  (K8 : Int32 → Int32 → gV → Int32 × gV)  (x2 : Int32) (x3 : Int32) (v : gV) : Int32 × gV := K8 x2 (x3 + 1) v
def p_X12_waives_44  (K8 : Int32 → Int32 → gV → Int32 × gV)  (PK8 : Int32 → Int32 → gV → Prop)  (x2 : Int32) (x3 : Int32) (v : gV) : Prop := PK8 x2 (x3 + 1) v
set_option maxHeartbeats 4000000 in
set_option maxRecDepth 100000 in
theorem w_X12_waives_44 {E : gE} {d : Nat} {Q : gO → gS → Prop}   (hd : 2 ≤ d) (K8 : Int32 → Int32 → gV → Int32 × gV)  (PK8 : Int32 → Int32 → gV → Prop)  (hK8 : ∀ (x2 : Int32) (x3 : Int32) (v : gV), PK8 x2 x3 v → gqIV Q (K8 x2 x3 v) → gG E m_X12_waives d Q 0 0 (rS v) 8 [(0, .ref (gX E + 559)), (2, .int x2), (3, .int x3)] [])  (x2 : Int32) (x3 : Int32) (v : gV) (hp : p_X12_waives_44 K8 PK8 x2 x3 v) (hQ : gqIV Q (f_X12_waives_44 K8 x2 x3 v)) : gG E m_X12_waives d Q 0 0 (rS v) 44 [(0, .ref (gX E + 559)), (2, .int x2), (3, .int x3)] [] := by
  refine g_iinc 2 (x3 + 1) [(3, .int (x3 + 1)), (0, .ref (gX E + 559)), (2, .int x2)] dX12_waives_44 rfl rfl (by decide) rfl ?_
  refine g_goto 8 dX12_waives_47 (by decide) ?_
  refine g_lv (lv' := [(0, .ref (gX E + 559)), (2, .int x2), (3, .int (x3 + 1))]) [1, 2, 0] rfl ?_
  exact hK8 x2 (x3 + 1) v hp hQ
def f_X12_waives_8  : Nat → Int32 → Int32 → gV → Int32 × gV
  | 0, _, _, v => (0, v)
  | n + 1, x2, x3, v => if (v.1 560 (2 : Int32).toNatClampNeg) ≤ x3 then (f_X12_waives_83  x2 (vM v 560 (((8 : Int32) + ((8 : Int32) * (f_X12_policy (f_X12_c x2 (1 : Int32) v) v))) + (6 : Int32)).toNatClampNeg ((v.1 560 (((8 : Int32) + ((8 : Int32) * (f_X12_policy (f_X12_c x2 (1 : Int32) v) v))) + (6 : Int32)).toNatClampNeg) - (f_X12_c x2 (3 : Int32) v)))) else (f_X12_waives_44 (fun x2 x3 v => f_X12_waives_8  n x2 x3 v) x2 x3 (vM v 560 (((216 : Int32) + ((4 : Int32) * x3)) + (2 : Int32)).toNatClampNeg ((v.1 560 (((216 : Int32) + ((4 : Int32) * x3)) + (2 : Int32)).toNatClampNeg) + (f_X12_c x2 ((6 : Int32) + x3) v))))
def p_X12_waives_8  : Nat → Int32 → Int32 → gV → Prop
  | 0, _, _, _ => False
  | n + 1, x2, x3, v => (((v.1 560 (2 : Int32).toNatClampNeg) ≤ x3) → ((p_X12_c x2 (1 : Int32) v) ∧ ((p_X12_policy (f_X12_c x2 (1 : Int32) v) v) ∧ ((vp_in (((8 : Int32) + ((8 : Int32) * (f_X12_policy (f_X12_c x2 (1 : Int32) v) v))) + (6 : Int32)) 300) ∧ ((p_X12_c x2 (3 : Int32) v) ∧ ((vp_in (((8 : Int32) + ((8 : Int32) * (f_X12_policy (f_X12_c x2 (1 : Int32) v) v))) + (6 : Int32)) 300) ∧ (p_X12_waives_83   x2 (vM v 560 (((8 : Int32) + ((8 : Int32) * (f_X12_policy (f_X12_c x2 (1 : Int32) v) v))) + (6 : Int32)).toNatClampNeg ((v.1 560 (((8 : Int32) + ((8 : Int32) * (f_X12_policy (f_X12_c x2 (1 : Int32) v) v))) + (6 : Int32)).toNatClampNeg) - (f_X12_c x2 (3 : Int32) v)))))))))) ∧ (¬ ((v.1 560 (2 : Int32).toNatClampNeg) ≤ x3) → ((vp_in (((216 : Int32) + ((4 : Int32) * x3)) + (2 : Int32)) 300) ∧ ((p_X12_c x2 ((6 : Int32) + x3) v) ∧ ((vp_in (((216 : Int32) + ((4 : Int32) * x3)) + (2 : Int32)) 300) ∧ (p_X12_waives_44 (fun x2 x3 v => f_X12_waives_8  n x2 x3 v) (fun x2 x3 v => p_X12_waives_8   n x2 x3 v) x2 x3 (vM v 560 (((216 : Int32) + ((4 : Int32) * x3)) + (2 : Int32)).toNatClampNeg ((v.1 560 (((216 : Int32) + ((4 : Int32) * x3)) + (2 : Int32)).toNatClampNeg) + (f_X12_c x2 ((6 : Int32) + x3) v))))))))
set_option maxHeartbeats 4000000 in
set_option maxRecDepth 100000 in
theorem w_X12_waives_8 {E : gE} {d : Nat} {Q : gO → gS → Prop}   (hd : 2 ≤ d) : ∀ (n : Nat) (x2 : Int32) (x3 : Int32) (v : gV), p_X12_waives_8   n x2 x3 v → gqIV Q (f_X12_waives_8  n x2 x3 v) → gG E m_X12_waives d Q 0 0 (rS v) 8 [(0, .ref (gX E + 559)), (2, .int x2), (3, .int x3)] [] := by
  intro n
  induction n with
  | zero => intro x2 x3 v hp; exact hp.elim
  | succ n ih =>
    intro x2 x3 v hp hQ
    refine g_iload_n 2 dX12_waives_8 rfl ?_
    refine g_aload_n 0 dX12_waives_9 rfl ?_
    refine r_get (.ref (gX E + 560)) f_X12_7_X12 rfl (by decide : kd 559 = (0, 9)) (show 559 < 572 by decide) dX12_waives_10 (fun _ => rfl) ?_
    refine g_iconst dX12_waives_13 (2 : Int32) (by decide) ?_
    refine g_iald (by decide : kd 560 = (1, 300)) (show 560 < 572 by decide) (show ¬ (_ ∨ _) by decide) dX12_waives_14 ?_
    refine g_icmp_ge 50 dX12_waives_15 (by decide) (fun h2 => ?_) (fun h2 => ?_)
    · have hQ := qp (P := gqIV Q) h2 hQ
      have hp := hp.1 h2
      refine g_aload_n 0 dX12_waives_50 rfl ?_
      refine r_get (.ref (gX E + 560)) f_X12_7_X12 rfl (by decide : kd 559 = (0, 9)) (show 559 < 572 by decide) dX12_waives_51 (fun _ => rfl) ?_
      refine g_bipush dX12_waives_54 (8 : Int32) (by decide) ?_
      refine g_bipush dX12_waives_56 (8 : Int32) (by decide) ?_
      refine g_aload_n 0 dX12_waives_58 rfl ?_
      refine g_aload_n 0 dX12_waives_59 rfl ?_
      refine g_iload_n 1 dX12_waives_60 rfl ?_
      refine g_iconst dX12_waives_61 (1 : Int32) (by decide) ?_
      obtain ⟨h3, hp⟩ := hp
      refine g_callV (rest := [.ref (gX E + 559), .int ((8 : Int32)), .int ((8 : Int32)), .ref (gX E + 560)]) s_X12_104_X12 rfl (c_X12_c (E := E) (d := d - 1)   (by omega) x2 (1 : Int32) v h3) (by decide : kd 559 = (0, 9)) (show 559 < 572 by decide) rfl rfl (Nat.le_of_ble_eq_true rfl) (by omega) (by decide) (by decide) dX12_waives_62 (adV ?_) axN
      obtain ⟨h4, hp⟩ := hp
      refine g_callV (rest := [.int ((8 : Int32)), .int ((8 : Int32)), .ref (gX E + 560)]) s_X12_107_X12 rfl (c_X12_policy (E := E) (d := d - 1)   (by omega) (f_X12_c x2 (1 : Int32) v) v h4) (by decide : kd 559 = (0, 9)) (show 559 < 572 by decide) rfl rfl (Nat.le_of_ble_eq_true rfl) (by omega) (by decide) (by decide) dX12_waives_65 (adV ?_) axN
      refine g_imul dX12_waives_68 ?_
      refine g_iadd dX12_waives_69 ?_
      refine g_bipush dX12_waives_70 (6 : Int32) (by decide) ?_
      refine g_iadd dX12_waives_72 ?_
      refine g_dup2 dX12_waives_73 rfl rfl ?_
      obtain ⟨h5, hp⟩ := hp
      refine g_iald (by decide : kd 560 = (1, 300)) (show 560 < 572 by decide) h5 dX12_waives_74 ?_
      refine g_aload_n 0 dX12_waives_75 rfl ?_
      refine g_iload_n 1 dX12_waives_76 rfl ?_
      refine g_iconst dX12_waives_77 (3 : Int32) (by decide) ?_
      obtain ⟨h6, hp⟩ := hp
      refine g_callV (rest := [.int (v.1 560 (((8 : Int32) + ((8 : Int32) * (f_X12_policy (f_X12_c x2 (1 : Int32) v) v))) + (6 : Int32)).toNatClampNeg), .int (((8 : Int32) + ((8 : Int32) * (f_X12_policy (f_X12_c x2 (1 : Int32) v) v))) + (6 : Int32)), .ref (gX E + 560)]) s_X12_104_X12 rfl (c_X12_c (E := E) (d := d - 1)   (by omega) x2 (3 : Int32) v h6) (by decide : kd 559 = (0, 9)) (show 559 < 572 by decide) rfl rfl (Nat.le_of_ble_eq_true rfl) (by omega) (by decide) (by decide) dX12_waives_78 (adV ?_) axN
      refine g_isub dX12_waives_81 ?_
      obtain ⟨h7, hp⟩ := hp
      refine r_iast (by decide : kd 560 = (1, 300)) (show 560 < 572 by decide) h7 dX12_waives_82 ?_
      refine g_lv (lv' := [(0, .ref (gX E + 559)), (2, .int x2)]) [0, 1] rfl ?_
      exact w_X12_waives_83  hd    x2 (vM v 560 (((8 : Int32) + ((8 : Int32) * (f_X12_policy (f_X12_c x2 (1 : Int32) v) v))) + (6 : Int32)).toNatClampNeg ((v.1 560 (((8 : Int32) + ((8 : Int32) * (f_X12_policy (f_X12_c x2 (1 : Int32) v) v))) + (6 : Int32)).toNatClampNeg) - (f_X12_c x2 (3 : Int32) v))) hp hQ
    · have hQ := qn (P := gqIV Q) h2 hQ
      have hp := hp.2 h2
      refine g_aload_n 0 dX12_waives_18 rfl ?_
      refine r_get (.ref (gX E + 560)) f_X12_7_X12 rfl (by decide : kd 559 = (0, 9)) (show 559 < 572 by decide) dX12_waives_19 (fun _ => rfl) ?_
      refine g_sipush dX12_waives_22 (216 : Int32) (by decide) ?_
      refine g_iconst dX12_waives_25 (4 : Int32) (by decide) ?_
      refine g_iload_n 2 dX12_waives_26 rfl ?_
      refine g_imul dX12_waives_27 ?_
      refine g_iadd dX12_waives_28 ?_
      refine g_iconst dX12_waives_29 (2 : Int32) (by decide) ?_
      refine g_iadd dX12_waives_30 ?_
      refine g_dup2 dX12_waives_31 rfl rfl ?_
      obtain ⟨h9, hp⟩ := hp
      refine g_iald (by decide : kd 560 = (1, 300)) (show 560 < 572 by decide) h9 dX12_waives_32 ?_
      refine g_aload_n 0 dX12_waives_33 rfl ?_
      refine g_iload_n 1 dX12_waives_34 rfl ?_
      refine g_bipush dX12_waives_35 (6 : Int32) (by decide) ?_
      refine g_iload_n 2 dX12_waives_37 rfl ?_
      refine g_iadd dX12_waives_38 ?_
      obtain ⟨h10, hp⟩ := hp
      refine g_callV (rest := [.int (v.1 560 (((216 : Int32) + ((4 : Int32) * x3)) + (2 : Int32)).toNatClampNeg), .int (((216 : Int32) + ((4 : Int32) * x3)) + (2 : Int32)), .ref (gX E + 560)]) s_X12_104_X12 rfl (c_X12_c (E := E) (d := d - 1)   (by omega) x2 ((6 : Int32) + x3) v h10) (by decide : kd 559 = (0, 9)) (show 559 < 572 by decide) rfl rfl (Nat.le_of_ble_eq_true rfl) (by omega) (by decide) (by decide) dX12_waives_39 (adV ?_) axN
      refine g_iadd dX12_waives_42 ?_
      obtain ⟨h11, hp⟩ := hp
      refine r_iast (by decide : kd 560 = (1, 300)) (show 560 < 572 by decide) h11 dX12_waives_43 ?_
      exact w_X12_waives_44  hd (fun x2 x3 v => f_X12_waives_8  n x2 x3 v) (fun x2 x3 v => p_X12_waives_8   n x2 x3 v) ih x2 x3 (vM v 560 (((216 : Int32) + ((4 : Int32) * x3)) + (2 : Int32)).toNatClampNeg ((v.1 560 (((216 : Int32) + ((4 : Int32) * x3)) + (2 : Int32)).toNatClampNeg) + (f_X12_c x2 ((6 : Int32) + x3) v))) hp hQ
def f_X12_waives_0  (x1 : Int32) (v : gV) : Int32 × gV := f_X12_waives_8  5000 (f_X12_claim x1 v) (0 : Int32) v
def p_X12_waives_0  (x1 : Int32) (v : gV) : Prop := (p_X12_claim x1 v) ∧ (p_X12_waives_8   5000 (f_X12_claim x1 v) (0 : Int32) v)
set_option maxHeartbeats 4000000 in
set_option maxRecDepth 100000 in
theorem w_X12_waives_0 {E : gE} {d : Nat} {Q : gO → gS → Prop}   (hd : 2 ≤ d) (x1 : Int32) (v : gV) (hp : p_X12_waives_0   x1 v) (hQ : gqIV Q (f_X12_waives_0  x1 v)) : gG E m_X12_waives d Q 0 0 (rS v) 0 [(0, .ref (gX E + 559)), (1, .int x1)] [] := by
  refine g_aload_n 0 dX12_waives_0 rfl ?_
  refine g_iload_n 1 dX12_waives_1 rfl ?_
  obtain ⟨h1, hp⟩ := hp
  refine g_callV (rest := []) s_X12_167_X12 rfl (c_X12_claim (E := E) (d := d - 1)   (by omega) x1 v h1) (by decide : kd 559 = (0, 9)) (show 559 < 572 by decide) rfl rfl (Nat.le_of_ble_eq_true rfl) (by omega) (by decide) (by decide) dX12_waives_2 (adV ?_) axN
  refine g_istore_n [(2, .int ((f_X12_claim x1 v))), (0, .ref (gX E + 559)), (1, .int x1)] dX12_waives_5 rfl (by decide) rfl ?_
  refine g_iconst dX12_waives_6 (0 : Int32) (by decide) ?_
  refine g_istore_n [(3, .int ((0 : Int32))), (2, .int ((f_X12_claim x1 v))), (0, .ref (gX E + 559)), (1, .int x1)] dX12_waives_7 rfl (by decide) rfl ?_
  refine g_lv (lv' := [(0, .ref (gX E + 559)), (2, .int ((f_X12_claim x1 v))), (3, .int ((0 : Int32)))]) [2, 1, 0] rfl ?_
  exact w_X12_waives_8  hd    5000 (f_X12_claim x1 v) (0 : Int32) v hp hQ
def f_X12_waives  (x1 : Int32) (v : gV) : Int32 × gV := f_X12_waives_0 x1 v
def p_X12_waives  (x1 : Int32) (v : gV) : Prop := p_X12_waives_0 x1 v
theorem c_X12_waives {E : gE} {d : Nat}   (hd : 2 ≤ d) (x1 : Int32) (v : gV) (hp : p_X12_waives x1 v) : CT E m_X12_waives d 0 0 [.ref (gX E + 559), .int x1] (rS v) (Cq (.inl (some (.int ((f_X12_waives x1 v).1)))) (f_X12_waives x1 v).2) := CT.of ok_X12_waives rfl (Nat.le_of_ble_eq_true rfl) (w_X12_waives_0  hd x1 v hp ⟨rfl, rfl⟩)
def f_X12_withdrawClaim_31  (s0 : Int32) (v : gV) : Int32 × gV := (s0, v)
def p_X12_withdrawClaim_31  (s0 : Int32) (v : gV) : Prop := True
set_option maxHeartbeats 4000000 in
set_option maxRecDepth 100000 in
theorem w_X12_withdrawClaim_31 {E : gE} {d : Nat} {Q : gO → gS → Prop}   (hd : 3 ≤ d) (s0 : Int32) (v : gV) (hp : p_X12_withdrawClaim_31   s0 v) (hQ : gqIV Q (f_X12_withdrawClaim_31  s0 v)) : gG E m_X12_withdrawClaim d Q 0 0 (rS v) 31 [] [.int s0] := by
  exact g_iret rfl dX12_withdrawClaim_31 hQ
def f_X12_withdrawClaim_28  (s0 : Int32) (v : gV) : Int32 × gV := f_X12_withdrawClaim_31  ((f_X12_commit s0 v).1) (f_X12_commit s0 v).2
def p_X12_withdrawClaim_28  (s0 : Int32) (v : gV) : Prop := (p_X12_commit s0 v) ∧ (p_X12_withdrawClaim_31   ((f_X12_commit s0 v).1) (f_X12_commit s0 v).2)
set_option maxHeartbeats 4000000 in
set_option maxRecDepth 100000 in
theorem w_X12_withdrawClaim_28 {E : gE} {d : Nat} {Q : gO → gS → Prop}   (hd : 3 ≤ d) (s0 : Int32) (v : gV) (hp : p_X12_withdrawClaim_28   s0 v) (hQ : gqIV Q (f_X12_withdrawClaim_28  s0 v)) : gG E m_X12_withdrawClaim d Q 0 0 (rS v) 28 [] [.int s0, .ref (gX E + 559)] := by
  obtain ⟨h5, hp⟩ := hp
  refine g_callV (rest := []) s_X12_101_X12 rfl (c_X12_commit (E := E) (d := d - 1)   (by omega) s0 v h5) (by decide : kd 559 = (0, 9)) (show 559 < 572 by decide) rfl rfl (Nat.le_of_ble_eq_true rfl) (by omega) (by decide) (by decide) dX12_withdrawClaim_28 (adV ?_) axN
  exact w_X12_withdrawClaim_31  hd    ((f_X12_commit s0 v).1) (f_X12_commit s0 v).2 hp hQ
def f_X12_withdrawClaim_19  (s0 : Int32) (v : gV) : Int32 × gV := f_X12_withdrawClaim_31  s0 v
def p_X12_withdrawClaim_19  (s0 : Int32) (v : gV) : Prop := p_X12_withdrawClaim_31   s0 v
set_option maxHeartbeats 4000000 in
set_option maxRecDepth 100000 in
theorem w_X12_withdrawClaim_19 {E : gE} {d : Nat} {Q : gO → gS → Prop}   (hd : 3 ≤ d) (s0 : Int32) (v : gV) (hp : p_X12_withdrawClaim_19   s0 v) (hQ : gqIV Q (f_X12_withdrawClaim_19  s0 v)) : gG E m_X12_withdrawClaim d Q 0 0 (rS v) 19 [] [.int s0] := by
  refine g_goto 31 dX12_withdrawClaim_19 (by decide) ?_
  exact w_X12_withdrawClaim_31  hd    s0 v hp hQ
def f_X12_withdrawClaim_4  (x1 : Int32) (v : gV) : Int32 × gV := if (f_X12_cannotWaive x1 v) ≤ 0 then (f_X12_withdrawClaim_28  ((f_X12_waives x1 v).1) (f_X12_waives x1 v).2) else (f_X12_withdrawClaim_19  ((f_X12_fail (f_X12_cannotWaive x1 v) v).1) (f_X12_fail (f_X12_cannotWaive x1 v) v).2)
def p_X12_withdrawClaim_4  (x1 : Int32) (v : gV) : Prop := (p_X12_cannotWaive x1 v) ∧ ((((f_X12_cannotWaive x1 v) ≤ 0) → ((p_X12_waives x1 v) ∧ (p_X12_withdrawClaim_28   ((f_X12_waives x1 v).1) (f_X12_waives x1 v).2))) ∧ (¬ ((f_X12_cannotWaive x1 v) ≤ 0) → ((p_X12_fail (f_X12_cannotWaive x1 v) v) ∧ (p_X12_withdrawClaim_19   ((f_X12_fail (f_X12_cannotWaive x1 v) v).1) (f_X12_fail (f_X12_cannotWaive x1 v) v).2))))
set_option maxHeartbeats 4000000 in
set_option maxRecDepth 100000 in
theorem w_X12_withdrawClaim_4 {E : gE} {d : Nat} {Q : gO → gS → Prop}   (hd : 3 ≤ d) (x1 : Int32) (v : gV) (hp : p_X12_withdrawClaim_4   x1 v) (hQ : gqIV Q (f_X12_withdrawClaim_4  x1 v)) : gG E m_X12_withdrawClaim d Q 0 0 (rS v) 4 [(0, .ref (gX E + 559)), (1, .int x1)] [] := by
  refine g_aload_n 0 dX12_withdrawClaim_4 rfl ?_
  refine g_iload_n 1 dX12_withdrawClaim_5 rfl ?_
  obtain ⟨h2, hp⟩ := hp
  refine g_callV (rest := []) s_X12_185_X12 rfl (c_X12_cannotWaive (E := E) (d := d - 1)   (by omega) x1 v h2) (by decide : kd 559 = (0, 9)) (show 559 < 572 by decide) rfl rfl (Nat.le_of_ble_eq_true rfl) (by omega) (by decide) (by decide) dX12_withdrawClaim_6 (adV ?_) axN
  refine g_istore_n [(2, .int ((f_X12_cannotWaive x1 v))), (0, .ref (gX E + 559)), (1, .int x1)] dX12_withdrawClaim_9 rfl (by decide) rfl ?_
  refine g_iload_n 0 dX12_withdrawClaim_10 rfl ?_
  refine g_if_le 22 dX12_withdrawClaim_11 (by decide) (fun h3 => ?_) (fun h3 => ?_)
  · have hQ := qp (P := gqIV Q) h3 hQ
    have hp := hp.1 h3
    refine g_aload_n 1 dX12_withdrawClaim_22 rfl ?_
    refine g_aload_n 1 dX12_withdrawClaim_23 rfl ?_
    refine g_iload_n 2 dX12_withdrawClaim_24 rfl ?_
    obtain ⟨h4, hp⟩ := hp
    refine g_callV (rest := [.ref (gX E + 559)]) s_X12_188_X12 rfl (c_X12_waives (E := E) (d := d - 1)   (by omega) x1 v h4) (by decide : kd 559 = (0, 9)) (show 559 < 572 by decide) rfl rfl (Nat.le_of_ble_eq_true rfl) (by omega) (by decide) (by decide) dX12_withdrawClaim_25 (adV ?_) axN
    refine g_lv (lv' := []) [] rfl ?_
    exact w_X12_withdrawClaim_28  hd    ((f_X12_waives x1 v).1) (f_X12_waives x1 v).2 hp hQ
  · have hQ := qn (P := gqIV Q) h3 hQ
    have hp := hp.2 h3
    refine g_aload_n 1 dX12_withdrawClaim_14 rfl ?_
    refine g_iload_n 0 dX12_withdrawClaim_15 rfl ?_
    obtain ⟨h6, hp⟩ := hp
    refine g_callV (rest := []) s_X12_94_X12 rfl (c_X12_fail (E := E) (d := d - 1)   (by omega) (f_X12_cannotWaive x1 v) v h6) (by decide : kd 559 = (0, 9)) (show 559 < 572 by decide) rfl rfl (Nat.le_of_ble_eq_true rfl) (by omega) (by decide) (by decide) dX12_withdrawClaim_16 (adV ?_) axN
    refine g_lv (lv' := []) [] rfl ?_
    exact w_X12_withdrawClaim_19  hd    ((f_X12_fail (f_X12_cannotWaive x1 v) v).1) (f_X12_fail (f_X12_cannotWaive x1 v) v).2 hp hQ
def f_X12_withdrawClaim_0  (x1 : Int32) (v : gV) : Int32 × gV := f_X12_withdrawClaim_4  x1 (f_X12_begin  v)
def p_X12_withdrawClaim_0  (x1 : Int32) (v : gV) : Prop := (p_X12_begin  v) ∧ (p_X12_withdrawClaim_4   x1 (f_X12_begin  v))
set_option maxHeartbeats 4000000 in
set_option maxRecDepth 100000 in
theorem w_X12_withdrawClaim_0 {E : gE} {d : Nat} {Q : gO → gS → Prop}   (hd : 3 ≤ d) (x1 : Int32) (v : gV) (hp : p_X12_withdrawClaim_0   x1 v) (hQ : gqIV Q (f_X12_withdrawClaim_0  x1 v)) : gG E m_X12_withdrawClaim d Q 0 0 (rS v) 0 [(0, .ref (gX E + 559)), (1, .int x1)] [] := by
  refine g_aload_n 0 dX12_withdrawClaim_0 rfl ?_
  obtain ⟨h1, hp⟩ := hp
  refine g_callV (rest := []) s_X12_87_X12 rfl (c_X12_begin (E := E) (d := d - 1)   (by omega)  v h1) (by decide : kd 559 = (0, 9)) (show 559 < 572 by decide) rfl rfl (Nat.le_of_ble_eq_true rfl) (by omega) (by decide) (by decide) dX12_withdrawClaim_1 (adN ?_) axN
  exact w_X12_withdrawClaim_4  hd    x1 (f_X12_begin  v) hp hQ
def f_X12_withdrawClaim  (x1 : Int32) (v : gV) : Int32 × gV := f_X12_withdrawClaim_0 x1 v
def p_X12_withdrawClaim  (x1 : Int32) (v : gV) : Prop := p_X12_withdrawClaim_0 x1 v
theorem c_X12_withdrawClaim {E : gE} {d : Nat}   (hd : 3 ≤ d) (x1 : Int32) (v : gV) (hp : p_X12_withdrawClaim x1 v) : CT E m_X12_withdrawClaim d 0 0 [.ref (gX E + 559), .int x1] (rS v) (Cq (.inl (some (.int ((f_X12_withdrawClaim x1 v).1)))) (f_X12_withdrawClaim x1 v).2) := CT.of ok_X12_withdrawClaim rfl (Nat.le_of_ble_eq_true rfl) (w_X12_withdrawClaim_0  hd x1 v hp ⟨rfl, rfl⟩)
def f_X12_o_0  (x1 : Int32) (x2 : Int32) (v : gV) : Int32 := v.1 560 (((232 : Int32) + ((4 : Int32) * x1)) + x2).toNatClampNeg
def p_X12_o_0  (x1 : Int32) (x2 : Int32) (v : gV) : Prop := (vp_in (((232 : Int32) + ((4 : Int32) * x1)) + x2) 300) ∧ (True)
set_option maxHeartbeats 4000000 in
set_option maxRecDepth 100000 in
theorem w_X12_o_0 {E : gE} {d : Nat} {Q : gO → gS → Prop}   (hd : 0 ≤ d) (x1 : Int32) (x2 : Int32) (v : gV) (hp : p_X12_o_0   x1 x2 v) (hQ : gqI Q v (f_X12_o_0  x1 x2 v)) : gG E m_X12_o d Q 0 0 (rS v) 0 [(0, .ref (gX E + 559)), (1, .int x1), (2, .int x2)] [] := by
  refine g_aload_n 0 dX12_o_0 rfl ?_
  refine r_get (.ref (gX E + 560)) f_X12_7_X12 rfl (by decide : kd 559 = (0, 9)) (show 559 < 572 by decide) dX12_o_1 (fun _ => rfl) ?_
  refine g_sipush dX12_o_4 (232 : Int32) (by decide) ?_
  refine g_iconst dX12_o_7 (4 : Int32) (by decide) ?_
  refine g_iload_n 1 dX12_o_8 rfl ?_
  refine g_imul dX12_o_9 ?_
  refine g_iadd dX12_o_10 ?_
  refine g_iload_n 2 dX12_o_11 rfl ?_
  refine g_iadd dX12_o_12 ?_
  obtain ⟨h1, hp⟩ := hp
  refine g_iald (by decide : kd 560 = (1, 300)) (show 560 < 572 by decide) h1 dX12_o_13 ?_
  exact g_iret rfl dX12_o_14 hQ
def f_X12_o  (x1 : Int32) (x2 : Int32) (v : gV) : Int32 := f_X12_o_0 x1 x2 v
def p_X12_o  (x1 : Int32) (x2 : Int32) (v : gV) : Prop := p_X12_o_0 x1 x2 v
theorem c_X12_o {E : gE} {d : Nat}   (hd : 0 ≤ d) (x1 : Int32) (x2 : Int32) (v : gV) (hp : p_X12_o x1 x2 v) : CT E m_X12_o d 0 0 [.ref (gX E + 559), .int x1, .int x2] (rS v) (Cq (.inl (some (.int (f_X12_o x1 x2 v)))) v) := CT.of ok_X12_o rfl (Nat.le_of_ble_eq_true rfl) (w_X12_o_0  hd x1 x2 v hp ⟨rfl, rfl⟩)
def f_X12_areDays_30  (s0 : Int32) (v : gV) : Int32 := s0
def p_X12_areDays_30  (s0 : Int32) (v : gV) : Prop := (s0 = 0 ∨ s0 = 1) ∧ (True)
set_option maxHeartbeats 4000000 in
set_option maxRecDepth 100000 in
theorem w_X12_areDays_30 {E : gE} {d : Nat} {Q : gO → gS → Prop}   (hd : 1 ≤ d) (s0 : Int32) (v : gV) (hp : p_X12_areDays_30   s0 v) (hQ : gqI Q v (f_X12_areDays_30  s0 v)) : gG E m_X12_areDays d Q 0 0 (rS v) 30 [] [.int s0] := by
  obtain ⟨h3, hp⟩ := hp
  exact g_zret rfl (nz h3) dX12_areDays_30 hQ
def f_X12_areDays_29   (v : gV) : Int32 := f_X12_areDays_30  (0 : Int32) v
def p_X12_areDays_29   (v : gV) : Prop := p_X12_areDays_30   (0 : Int32) v
set_option maxHeartbeats 4000000 in
set_option maxRecDepth 100000 in
theorem w_X12_areDays_29 {E : gE} {d : Nat} {Q : gO → gS → Prop}   (hd : 1 ≤ d)  (v : gV) (hp : p_X12_areDays_29    v) (hQ : gqI Q v (f_X12_areDays_29   v)) : gG E m_X12_areDays d Q 0 0 (rS v) 29 [] [] := by
  refine g_iconst dX12_areDays_29 (0 : Int32) (by decide) ?_
  exact w_X12_areDays_30  hd    (0 : Int32) v hp hQ
def f_X12_areDays_0  (x0 : Int32) (x1 : Int32) (v : gV) : Int32 := if (f_X12_in x0 (0 : Int32) (99 : Int32) v) = 0 then (f_X12_areDays_29   v) else (if (f_X12_in x1 (0 : Int32) (99 : Int32) v) = 0 then (f_X12_areDays_29   v) else (if x1 < x0 then (f_X12_areDays_29   v) else (f_X12_areDays_30  (1 : Int32) v)))
def p_X12_areDays_0  (x0 : Int32) (x1 : Int32) (v : gV) : Prop := (p_X12_in x0 (0 : Int32) (99 : Int32) v) ∧ ((((f_X12_in x0 (0 : Int32) (99 : Int32) v) = 0) → (p_X12_areDays_29    v)) ∧ (¬ ((f_X12_in x0 (0 : Int32) (99 : Int32) v) = 0) → ((p_X12_in x1 (0 : Int32) (99 : Int32) v) ∧ ((((f_X12_in x1 (0 : Int32) (99 : Int32) v) = 0) → (p_X12_areDays_29    v)) ∧ (¬ ((f_X12_in x1 (0 : Int32) (99 : Int32) v) = 0) → (((x1 < x0) → (p_X12_areDays_29    v)) ∧ (¬ (x1 < x0) → (p_X12_areDays_30   (1 : Int32) v))))))))
set_option maxHeartbeats 4000000 in
set_option maxRecDepth 100000 in
theorem w_X12_areDays_0 {E : gE} {d : Nat} {Q : gO → gS → Prop}   (hd : 1 ≤ d) (x0 : Int32) (x1 : Int32) (v : gV) (hp : p_X12_areDays_0   x0 x1 v) (hQ : gqI Q v (f_X12_areDays_0  x0 x1 v)) : gG E m_X12_areDays d Q 0 0 (rS v) 0 [(0, .int x0), (1, .int x1)] [] := by
  refine g_iload_n 0 dX12_areDays_0 rfl ?_
  refine g_iconst dX12_areDays_1 (0 : Int32) (by decide) ?_
  refine g_bipush dX12_areDays_2 (99 : Int32) (by decide) ?_
  obtain ⟨h1, hp⟩ := hp
  refine g_callS (rest := []) s_X12_83 rfl (c_X12_in (E := E) (d := d - 1)   (by omega) x0 (0 : Int32) (99 : Int32) v h1) rfl rfl (Nat.le_of_ble_eq_true rfl) (by omega) (by decide) (by decide) dX12_areDays_4 (adV ?_) axN
  refine g_if_eq 29 dX12_areDays_7 (by decide) (fun h2 => ?_) (fun h2 => ?_)
  · have hQ := qp (P := gqI Q v) h2 hQ
    have hp := hp.1 h2
    refine g_lv (lv' := []) [] rfl ?_
    exact w_X12_areDays_29  hd     v hp hQ
  · have hQ := qn (P := gqI Q v) h2 hQ
    have hp := hp.2 h2
    refine g_iload_n 1 dX12_areDays_10 rfl ?_
    refine g_iconst dX12_areDays_11 (0 : Int32) (by decide) ?_
    refine g_bipush dX12_areDays_12 (99 : Int32) (by decide) ?_
    obtain ⟨h4, hp⟩ := hp
    refine g_callS (rest := []) s_X12_83 rfl (c_X12_in (E := E) (d := d - 1)   (by omega) x1 (0 : Int32) (99 : Int32) v h4) rfl rfl (Nat.le_of_ble_eq_true rfl) (by omega) (by decide) (by decide) dX12_areDays_14 (adV ?_) axN
    refine g_if_eq 29 dX12_areDays_17 (by decide) (fun h5 => ?_) (fun h5 => ?_)
    · have hQ := qp (P := gqI Q v) h5 hQ
      have hp := hp.1 h5
      refine g_lv (lv' := []) [] rfl ?_
      exact w_X12_areDays_29  hd     v hp hQ
    · have hQ := qn (P := gqI Q v) h5 hQ
      have hp := hp.2 h5
      refine g_iload_n 0 dX12_areDays_20 rfl ?_
      refine g_iload_n 1 dX12_areDays_21 rfl ?_
      refine g_icmp_gt 29 dX12_areDays_22 (by decide) (fun h6 => ?_) (fun h6 => ?_)
      · have hQ := qp (P := gqI Q v) h6 hQ
        have hp := hp.1 h6
        refine g_lv (lv' := []) [] rfl ?_
        exact w_X12_areDays_29  hd     v hp hQ
      · have hQ := qn (P := gqI Q v) h6 hQ
        have hp := hp.2 h6
        refine g_iconst dX12_areDays_25 (1 : Int32) (by decide) ?_
        refine g_goto 30 dX12_areDays_26 (by decide) ?_
        refine g_lv (lv' := []) [] rfl ?_
        exact w_X12_areDays_30  hd    (1 : Int32) v hp hQ
def f_X12_areDays  (x0 : Int32) (x1 : Int32) (v : gV) : Int32 := f_X12_areDays_0 x0 x1 v
def p_X12_areDays  (x0 : Int32) (x1 : Int32) (v : gV) : Prop := p_X12_areDays_0 x0 x1 v
theorem c_X12_areDays {E : gE} {d : Nat}   (hd : 1 ≤ d) (x0 : Int32) (x1 : Int32) (v : gV) (hp : p_X12_areDays x0 x1 v) : CT E m_X12_areDays d 0 0 [.int x0, .int x1] (rS v) (Cq (.inl (some (.int (f_X12_areDays x0 x1 v)))) v) := CT.of ok_X12_areDays rfl (Nat.le_of_ble_eq_true rfl) (w_X12_areDays_0  hd x0 x1 v hp ⟨rfl, rfl⟩)
def f_X12_cannotOffer_38  (s0 : Int32) (v : gV) : Int32 := s0
def p_X12_cannotOffer_38  (s0 : Int32) (v : gV) : Prop := True
set_option maxHeartbeats 4000000 in
set_option maxRecDepth 100000 in
theorem w_X12_cannotOffer_38 {E : gE} {d : Nat} {Q : gO → gS → Prop}   (hd : 2 ≤ d) (s0 : Int32) (v : gV) (hp : p_X12_cannotOffer_38   s0 v) (hQ : gqI Q v (f_X12_cannotOffer_38  s0 v)) : gG E m_X12_cannotOffer d Q 0 0 (rS v) 38 [] [.int s0] := by
  exact g_iret rfl dX12_cannotOffer_38 hQ
def f_X12_cannotOffer_18   (v : gV) : Int32 := f_X12_cannotOffer_38  (1 : Int32) v
def p_X12_cannotOffer_18   (v : gV) : Prop := p_X12_cannotOffer_38   (1 : Int32) v
set_option maxHeartbeats 4000000 in
set_option maxRecDepth 100000 in
theorem w_X12_cannotOffer_18 {E : gE} {d : Nat} {Q : gO → gS → Prop}   (hd : 2 ≤ d)  (v : gV) (hp : p_X12_cannotOffer_18    v) (hQ : gqI Q v (f_X12_cannotOffer_18   v)) : gG E m_X12_cannotOffer d Q 0 0 (rS v) 18 [] [] := by
  refine g_iconst dX12_cannotOffer_18 (1 : Int32) (by decide) ?_
  refine g_goto 38 dX12_cannotOffer_19 (by decide) ?_
  exact w_X12_cannotOffer_38  hd    (1 : Int32) v hp hQ
def f_X12_cannotOffer_0  (x1 : Int32) (x2 : Int32) (x3 : Int32) (v : gV) : Int32 := if (f_X12_areDays x1 x2 v) = 0 then (f_X12_cannotOffer_18   v) else (if (f_X12_in x3 (1 : Int32) (50 : Int32) v) = 0 then (f_X12_cannotOffer_18   v) else (if (v.1 560 (3 : Int32).toNatClampNeg) = (8 : Int32) then (f_X12_cannotOffer_38  (2 : Int32) v) else (f_X12_cannotOffer_38  (0 : Int32) v)))
def p_X12_cannotOffer_0  (x1 : Int32) (x2 : Int32) (x3 : Int32) (v : gV) : Prop := (p_X12_areDays x1 x2 v) ∧ ((((f_X12_areDays x1 x2 v) = 0) → (p_X12_cannotOffer_18    v)) ∧ (¬ ((f_X12_areDays x1 x2 v) = 0) → ((p_X12_in x3 (1 : Int32) (50 : Int32) v) ∧ ((((f_X12_in x3 (1 : Int32) (50 : Int32) v) = 0) → (p_X12_cannotOffer_18    v)) ∧ (¬ ((f_X12_in x3 (1 : Int32) (50 : Int32) v) = 0) → ((((v.1 560 (3 : Int32).toNatClampNeg) = (8 : Int32)) → (p_X12_cannotOffer_38   (2 : Int32) v)) ∧ (¬ ((v.1 560 (3 : Int32).toNatClampNeg) = (8 : Int32)) → (p_X12_cannotOffer_38   (0 : Int32) v))))))))
set_option maxHeartbeats 4000000 in
set_option maxRecDepth 100000 in
theorem w_X12_cannotOffer_0 {E : gE} {d : Nat} {Q : gO → gS → Prop}   (hd : 2 ≤ d) (x1 : Int32) (x2 : Int32) (x3 : Int32) (v : gV) (hp : p_X12_cannotOffer_0   x1 x2 x3 v) (hQ : gqI Q v (f_X12_cannotOffer_0  x1 x2 x3 v)) : gG E m_X12_cannotOffer d Q 0 0 (rS v) 0 [(0, .ref (gX E + 559)), (1, .int x1), (2, .int x2), (3, .int x3)] [] := by
  refine g_iload_n 1 dX12_cannotOffer_0 rfl ?_
  refine g_iload_n 2 dX12_cannotOffer_1 rfl ?_
  obtain ⟨h1, hp⟩ := hp
  refine g_callS (rest := []) s_X12_191 rfl (c_X12_areDays (E := E) (d := d - 1)   (by omega) x1 x2 v h1) rfl rfl (Nat.le_of_ble_eq_true rfl) (by omega) (by decide) (by decide) dX12_cannotOffer_2 (adV ?_) axN
  refine g_if_eq 18 dX12_cannotOffer_5 (by decide) (fun h2 => ?_) (fun h2 => ?_)
  · have hQ := qp (P := gqI Q v) h2 hQ
    have hp := hp.1 h2
    refine g_lv (lv' := []) [] rfl ?_
    exact w_X12_cannotOffer_18  hd     v hp hQ
  · have hQ := qn (P := gqI Q v) h2 hQ
    have hp := hp.2 h2
    refine g_iload_n 3 dX12_cannotOffer_8 rfl ?_
    refine g_iconst dX12_cannotOffer_9 (1 : Int32) (by decide) ?_
    refine g_bipush dX12_cannotOffer_10 (50 : Int32) (by decide) ?_
    obtain ⟨h3, hp⟩ := hp
    refine g_callS (rest := []) s_X12_83 rfl (c_X12_in (E := E) (d := d - 1)   (by omega) x3 (1 : Int32) (50 : Int32) v h3) rfl rfl (Nat.le_of_ble_eq_true rfl) (by omega) (by decide) (by decide) dX12_cannotOffer_12 (adV ?_) axN
    refine g_if_ne 22 dX12_cannotOffer_15 (by decide) (fun h4 => ?_) (fun h4 => ?_)
    · have hQ := qn (P := gqI Q v) h4 hQ
      have hp := hp.2 h4
      refine g_aload_n 0 dX12_cannotOffer_22 rfl ?_
      refine r_get (.ref (gX E + 560)) f_X12_7_X12 rfl (by decide : kd 559 = (0, 9)) (show 559 < 572 by decide) dX12_cannotOffer_23 (fun _ => rfl) ?_
      refine g_iconst dX12_cannotOffer_26 (3 : Int32) (by decide) ?_
      refine g_iald (by decide : kd 560 = (1, 300)) (show 560 < 572 by decide) (show ¬ (_ ∨ _) by decide) dX12_cannotOffer_27 ?_
      refine g_bipush dX12_cannotOffer_28 (8 : Int32) (by decide) ?_
      refine g_icmp_ne 37 dX12_cannotOffer_30 (by decide) (fun h5 => ?_) (fun h5 => ?_)
      · have hQ := qn (P := gqI Q v) h5 hQ
        have hp := hp.2 h5
        refine g_iconst dX12_cannotOffer_37 (0 : Int32) (by decide) ?_
        refine g_lv (lv' := []) [] rfl ?_
        exact w_X12_cannotOffer_38  hd    (0 : Int32) v hp hQ
      · have hQ := qp (P := gqI Q v) h5 hQ
        have hp := hp.1 h5
        refine g_iconst dX12_cannotOffer_33 (2 : Int32) (by decide) ?_
        refine g_goto 38 dX12_cannotOffer_34 (by decide) ?_
        refine g_lv (lv' := []) [] rfl ?_
        exact w_X12_cannotOffer_38  hd    (2 : Int32) v hp hQ
    · have hQ := qp (P := gqI Q v) h4 hQ
      have hp := hp.1 h4
      refine g_lv (lv' := []) [] rfl ?_
      exact w_X12_cannotOffer_18  hd     v hp hQ
def f_X12_cannotOffer  (x1 : Int32) (x2 : Int32) (x3 : Int32) (v : gV) : Int32 := f_X12_cannotOffer_0 x1 x2 x3 v
def p_X12_cannotOffer  (x1 : Int32) (x2 : Int32) (x3 : Int32) (v : gV) : Prop := p_X12_cannotOffer_0 x1 x2 x3 v
theorem c_X12_cannotOffer {E : gE} {d : Nat}   (hd : 2 ≤ d) (x1 : Int32) (x2 : Int32) (x3 : Int32) (v : gV) (hp : p_X12_cannotOffer x1 x2 x3 v) : CT E m_X12_cannotOffer d 0 0 [.ref (gX E + 559), .int x1, .int x2, .int x3] (rS v) (Cq (.inl (some (.int (f_X12_cannotOffer x1 x2 x3 v)))) v) := CT.of ok_X12_cannotOffer rfl (Nat.le_of_ble_eq_true rfl) (w_X12_cannotOffer_0  hd x1 x2 x3 v hp ⟨rfl, rfl⟩)
