def f_X11_outcomesWithin_24  (s0 : Int64) (v : gV) : (Int64 ⊕ String) × gV := (Sum.inl s0, v)
def p_X11_outcomesWithin_24  (s0 : Int64) (v : gV) : Prop := True
set_option maxHeartbeats 4000000 in
set_option maxRecDepth 100000 in
theorem w_X11_outcomesWithin_24 {E : gE} {d : Nat} {Q : gO → gS → Prop}   (hd : 8 ≤ d) (s0 : Int64) (v : gV) (hp : p_X11_outcomesWithin_24   s0 v) (hQ : gqTJV Q (f_X11_outcomesWithin_24  s0 v)) : gG E m_X11_outcomesWithin d Q 0 0 (rS v) 24 [] [.long s0] := by
  exact g_lret rfl dX11_outcomesWithin_24 hQ
def f_X11_outcomesWithin_14  (s0 : Int32) (v : gV) : (Int64 ⊕ String) × gV := f_X11_outcomesWithin_24  ((f_X5_countByTable 1 s0 (v.1 1 5) v).1) (f_X5_countByTable 1 s0 (v.1 1 5) v).2
def p_X11_outcomesWithin_14  (s0 : Int32) (v : gV) : Prop := (p_X5_countByTable 1 s0 (v.1 1 5) v) ∧ (p_X11_outcomesWithin_24   ((f_X5_countByTable 1 s0 (v.1 1 5) v).1) (f_X5_countByTable 1 s0 (v.1 1 5) v).2)
set_option maxHeartbeats 4000000 in
set_option maxRecDepth 100000 in
theorem w_X11_outcomesWithin_14 {E : gE} {d : Nat} {Q : gO → gS → Prop}   (hd : 8 ≤ d) (s0 : Int32) (v : gV) (hp : p_X11_outcomesWithin_14   s0 v) (hQ : gqTJV Q (f_X11_outcomesWithin_14  s0 v)) : gG E m_X11_outcomesWithin d Q 0 0 (rS v) 14 [(0, .ref (gX E + 0))] [.int s0, .ref (gX E + (1 + 1))] := by
  refine g_aload_n 0 dX11_outcomesWithin_14 rfl ?_
  refine r_get (.ref (gX E + 1)) f_X11_10_X11 rfl (by decide : kd 0 = (0, 8)) (show 0 < 572 by decide) dX11_outcomesWithin_15 (fun _ => rfl) ?_
  refine r_get (.int (v.1 1 5)) f_X11_102_X1 rfl (kbz isBk_1) (lt_b0 isBk_1) dX11_outcomesWithin_18 (fun _ => rfl) ?_
  obtain ⟨h4, hp⟩ := hp
  refine g_callV (rest := []) s_X11_204_X5 rfl (c_X5_countByTable (E := E) (d := d - 1) 1 isBk_1 (by omega) s0 (v.1 1 5) v h4) (kb_1 isBk_1) (lt_b isBk_1 (by decide)) rfl rfl (Nat.le_of_ble_eq_true rfl) (by omega) (by decide) (by decide) dX11_outcomesWithin_21 (adV ?_) axN
  refine g_lv (lv' := []) [] rfl ?_
  exact w_X11_outcomesWithin_24  hd    ((f_X5_countByTable 1 s0 (v.1 1 5) v).1) (f_X5_countByTable 1 s0 (v.1 1 5) v).2 hp hQ
def f_X11_outcomesWithin_0  (x1 : Int32) (v : gV) : (Int64 ⊕ String) × gV := Sum.elim (fun (sr2 : Int32) => f_X11_outcomesWithin_14  sr2 v) (fun (e : String) => (Sum.inr e, v)) (f_X11_checkedNumber x1 (0 : Int32) (2147483647 : Int32) v)
def p_X11_outcomesWithin_0  (x1 : Int32) (v : gV) : Prop := (p_X11_checkedNumber x1 (0 : Int32) (2147483647 : Int32) v) ∧ (∀ (sr2 : Int32), (f_X11_checkedNumber x1 (0 : Int32) (2147483647 : Int32) v) = Sum.inl sr2 → (p_X11_outcomesWithin_14   sr2 v))
set_option maxHeartbeats 4000000 in
set_option maxRecDepth 100000 in
theorem w_X11_outcomesWithin_0 {E : gE} {d : Nat} {Q : gO → gS → Prop}   (hd : 8 ≤ d) (x1 : Int32) (v : gV) (hp : p_X11_outcomesWithin_0   x1 v) (hQ : gqTJV Q (f_X11_outcomesWithin_0  x1 v)) : gG E m_X11_outcomesWithin d Q 1 6 (rS v) 0 [(0, .ref (gX E + 0)), (1, .int x1)] [] := by
  refine g_aload_n 0 dX11_outcomesWithin_0 rfl ?_
  refine r_get (.ref (gX E + 1)) f_X11_10_X11 rfl (by decide : kd 0 = (0, 8)) (show 0 < 572 by decide) dX11_outcomesWithin_1 (fun _ => rfl) ?_
  refine r_get (.ref (gX E + (1 + 1))) f_X11_108_X1 rfl (kbz isBk_1) (lt_b0 isBk_1) dX11_outcomesWithin_4 (fun _ => rfl) ?_
  refine g_iload_n 1 dX11_outcomesWithin_7 rfl ?_
  refine g_iconst dX11_outcomesWithin_8 (0 : Int32) (by decide) ?_
  refine r_ldc (2147483647 : Int32) k_X11_203 rfl dX11_outcomesWithin_9 ?_
  obtain ⟨h1, hp⟩ := hp
  refine g_callS (rest := [.ref (gX E + (1 + 1))]) s_X11_190 rfl (c_X11_checkedNumber (E := E) (d := d - 1)   (by omega) x1 (0 : Int32) (2147483647 : Int32) v h1) rfl rfl (Nat.le_of_ble_eq_true rfl) (by omega) (by decide) (by decide) dX11_outcomesWithin_11 (adTI (fun sr2 h3 => ?_)) (axTI (fun e h3 => g_outs rfl rfl (qe (P := gqTJV Q) h3 hQ)))
  have hQ := ql (P := gqTJV Q) h3 hQ
  have hp := hp sr2 h3
  refine g_lv (lv' := [(0, .ref (gX E + 0))]) [0] rfl ?_
  exact w_X11_outcomesWithin_14  hd    sr2 v hp hQ
def f_X11_outcomesWithin  (x1 : Int32) (v : gV) : (Int64 ⊕ String) × gV := f_X11_outcomesWithin_0 x1 v
def p_X11_outcomesWithin  (x1 : Int32) (v : gV) : Prop := p_X11_outcomesWithin_0 x1 v
theorem c_X11_outcomesWithin {E : gE} {d : Nat}   (hd : 8 ≤ d) (x1 : Int32) (v : gV) (hp : p_X11_outcomesWithin x1 v) : CT E m_X11_outcomesWithin d 1 6 [.ref (gX E + 0), .int x1] (rS v) (Cq (gOj (f_X11_outcomesWithin x1 v).1) (f_X11_outcomesWithin x1 v).2) := CT.of ok_X11_outcomesWithin rfl (Nat.le_of_ble_eq_true rfl) (w_X11_outcomesWithin_0  hd x1 v hp ⟨rfl, rfl⟩)
def f_X11_outcomesWithinBySets_14  (s0 : Int32) (v : gV) : Int64 ⊕ String := Sum.inl (f_X5_countBySets 1 s0 (v.1 1 5) v)
def p_X11_outcomesWithinBySets_14  (s0 : Int32) (v : gV) : Prop := (p_X5_countBySets 1 s0 (v.1 1 5) v) ∧ (True)
set_option maxHeartbeats 4000000 in
set_option maxRecDepth 100000 in
theorem w_X11_outcomesWithinBySets_14 {E : gE} {d : Nat} {Q : gO → gS → Prop}   (hd : 8 ≤ d) (s0 : Int32) (v : gV) (hp : p_X11_outcomesWithinBySets_14   s0 v) (hQ : gqTJ Q v (f_X11_outcomesWithinBySets_14  s0 v)) : gG E m_X11_outcomesWithinBySets d Q 0 0 (rS v) 14 [(0, .ref (gX E + 0))] [.int s0, .ref (gX E + (1 + 1))] := by
  refine g_aload_n 0 dX11_outcomesWithinBySets_14 rfl ?_
  refine r_get (.ref (gX E + 1)) f_X11_10_X11 rfl (by decide : kd 0 = (0, 8)) (show 0 < 572 by decide) dX11_outcomesWithinBySets_15 (fun _ => rfl) ?_
  refine r_get (.int (v.1 1 5)) f_X11_102_X1 rfl (kbz isBk_1) (lt_b0 isBk_1) dX11_outcomesWithinBySets_18 (fun _ => rfl) ?_
  obtain ⟨h4, hp⟩ := hp
  refine g_callV (rest := []) s_X11_208_X5 rfl (c_X5_countBySets (E := E) (d := d - 1) 1 isBk_1 (by omega) s0 (v.1 1 5) v h4) (kb_1 isBk_1) (lt_b isBk_1 (by decide)) rfl rfl (Nat.le_of_ble_eq_true rfl) (by omega) (by decide) (by decide) dX11_outcomesWithinBySets_21 (adV ?_) axN
  exact g_lret rfl dX11_outcomesWithinBySets_24 hQ
def f_X11_outcomesWithinBySets_0  (x1 : Int32) (v : gV) : Int64 ⊕ String := Sum.elim (fun (sr2 : Int32) => f_X11_outcomesWithinBySets_14  sr2 v) (fun (e : String) => Sum.inr e) (f_X11_checkedNumber x1 (0 : Int32) (2147483647 : Int32) v)
def p_X11_outcomesWithinBySets_0  (x1 : Int32) (v : gV) : Prop := (p_X11_checkedNumber x1 (0 : Int32) (2147483647 : Int32) v) ∧ (∀ (sr2 : Int32), (f_X11_checkedNumber x1 (0 : Int32) (2147483647 : Int32) v) = Sum.inl sr2 → (p_X11_outcomesWithinBySets_14   sr2 v))
set_option maxHeartbeats 4000000 in
set_option maxRecDepth 100000 in
theorem w_X11_outcomesWithinBySets_0 {E : gE} {d : Nat} {Q : gO → gS → Prop}   (hd : 8 ≤ d) (x1 : Int32) (v : gV) (hp : p_X11_outcomesWithinBySets_0   x1 v) (hQ : gqTJ Q v (f_X11_outcomesWithinBySets_0  x1 v)) : gG E m_X11_outcomesWithinBySets d Q 1 6 (rS v) 0 [(0, .ref (gX E + 0)), (1, .int x1)] [] := by
  refine g_aload_n 0 dX11_outcomesWithinBySets_0 rfl ?_
  refine r_get (.ref (gX E + 1)) f_X11_10_X11 rfl (by decide : kd 0 = (0, 8)) (show 0 < 572 by decide) dX11_outcomesWithinBySets_1 (fun _ => rfl) ?_
  refine r_get (.ref (gX E + (1 + 1))) f_X11_108_X1 rfl (kbz isBk_1) (lt_b0 isBk_1) dX11_outcomesWithinBySets_4 (fun _ => rfl) ?_
  refine g_iload_n 1 dX11_outcomesWithinBySets_7 rfl ?_
  refine g_iconst dX11_outcomesWithinBySets_8 (0 : Int32) (by decide) ?_
  refine r_ldc (2147483647 : Int32) k_X11_203 rfl dX11_outcomesWithinBySets_9 ?_
  obtain ⟨h1, hp⟩ := hp
  refine g_callS (rest := [.ref (gX E + (1 + 1))]) s_X11_190 rfl (c_X11_checkedNumber (E := E) (d := d - 1)   (by omega) x1 (0 : Int32) (2147483647 : Int32) v h1) rfl rfl (Nat.le_of_ble_eq_true rfl) (by omega) (by decide) (by decide) dX11_outcomesWithinBySets_11 (adTI (fun sr2 h3 => ?_)) (axTI (fun e h3 => g_outs rfl rfl (qe (P := gqTJ Q v) h3 hQ)))
  have hQ := ql (P := gqTJ Q v) h3 hQ
  have hp := hp sr2 h3
  refine g_lv (lv' := [(0, .ref (gX E + 0))]) [0] rfl ?_
  exact w_X11_outcomesWithinBySets_14  hd    sr2 v hp hQ
def f_X11_outcomesWithinBySets  (x1 : Int32) (v : gV) : Int64 ⊕ String := f_X11_outcomesWithinBySets_0 x1 v
def p_X11_outcomesWithinBySets  (x1 : Int32) (v : gV) : Prop := p_X11_outcomesWithinBySets_0 x1 v
theorem c_X11_outcomesWithinBySets {E : gE} {d : Nat}   (hd : 8 ≤ d) (x1 : Int32) (v : gV) (hp : p_X11_outcomesWithinBySets x1 v) : CT E m_X11_outcomesWithinBySets d 1 6 [.ref (gX E + 0), .int x1] (rS v) (Cq (gOj (f_X11_outcomesWithinBySets x1 v)) v) := CT.of ok_X11_outcomesWithinBySets rfl (Nat.le_of_ble_eq_true rfl) (w_X11_outcomesWithinBySets_0  hd x1 v hp ⟨rfl, rfl⟩)
def f_X11_cheapestCover_28  (s0 : Int32) (v : gV) : (Int32 ⊕ String) × gV := (Sum.inl s0, v)
def p_X11_cheapestCover_28  (s0 : Int32) (v : gV) : Prop := True
set_option maxHeartbeats 4000000 in
set_option maxRecDepth 100000 in
theorem w_X11_cheapestCover_28 {E : gE} {d : Nat} {Q : gO → gS → Prop}   (hd : 8 ≤ d) (s0 : Int32) (v : gV) (hp : p_X11_cheapestCover_28   s0 v) (hQ : gqTIV Q (f_X11_cheapestCover_28  s0 v)) : gG E m_X11_cheapestCover d Q 0 0 (rS v) 28 [] [.int s0] := by
  exact g_iret rfl dX11_cheapestCover_28 hQ
def f_X11_cheapestCover_25  (s0 : Int32) (v : gV) : (Int32 ⊕ String) × gV := Sum.elim (fun (sr9 : Int32) => f_X11_cheapestCover_28  sr9 v) (fun (e : String) => (Sum.inr e, v)) (f_X11_coverPrice s0 v)
def p_X11_cheapestCover_25  (s0 : Int32) (v : gV) : Prop := (p_X11_coverPrice s0 v) ∧ (∀ (sr9 : Int32), (f_X11_coverPrice s0 v) = Sum.inl sr9 → (p_X11_cheapestCover_28   sr9 v))
set_option maxHeartbeats 4000000 in
set_option maxRecDepth 100000 in
theorem w_X11_cheapestCover_25 {E : gE} {d : Nat} {Q : gO → gS → Prop}   (hd : 8 ≤ d) (s0 : Int32) (v : gV) (hp : p_X11_cheapestCover_25   s0 v) (hQ : gqTIV Q (f_X11_cheapestCover_25  s0 v)) : gG E m_X11_cheapestCover d Q 1 6 (rS v) 25 [] [.int s0] := by
  obtain ⟨h8, hp⟩ := hp
  refine g_callS (rest := []) s_X11_240 rfl (c_X11_coverPrice (E := E) (d := d - 1)   (by omega) s0 v h8) rfl rfl (Nat.le_of_ble_eq_true rfl) (by omega) (by decide) (by decide) dX11_cheapestCover_25 (adTI (fun sr9 h10 => ?_)) (axTI (fun e h10 => g_outs rfl rfl (qe (P := gqTIV Q) h10 hQ)))
  have hQ := ql (P := gqTIV Q) h10 hQ
  have hp := hp sr9 h10
  exact w_X11_cheapestCover_28  hd    sr9 v hp hQ
def f_X11_cheapestCover_21  (x3 : Int32) (s0 : Int32) (v : gV) : (Int32 ⊕ String) × gV := f_X11_cheapestCover_25  ((f_X4_cheapestByDays 1 s0 x3 v).1) (f_X4_cheapestByDays 1 s0 x3 v).2
def p_X11_cheapestCover_21  (x3 : Int32) (s0 : Int32) (v : gV) : Prop := (p_X4_cheapestByDays 1 s0 x3 v) ∧ (p_X11_cheapestCover_25   ((f_X4_cheapestByDays 1 s0 x3 v).1) (f_X4_cheapestByDays 1 s0 x3 v).2)
set_option maxHeartbeats 4000000 in
set_option maxRecDepth 100000 in
theorem w_X11_cheapestCover_21 {E : gE} {d : Nat} {Q : gO → gS → Prop}   (hd : 8 ≤ d) (x3 : Int32) (s0 : Int32) (v : gV) (hp : p_X11_cheapestCover_21   x3 s0 v) (hQ : gqTIV Q (f_X11_cheapestCover_21  x3 s0 v)) : gG E m_X11_cheapestCover d Q 1 6 (rS v) 21 [(3, .int x3)] [.int s0, .ref (gX E + (1 + 45))] := by
  refine g_iload_n 0 dX11_cheapestCover_21 rfl ?_
  obtain ⟨h7, hp⟩ := hp
  refine g_callV (rest := []) s_X11_237_X4 rfl (c_X4_cheapestByDays (E := E) (d := d - 1) 1 isBk_1 (by omega) s0 x3 v h7) (kb_45 isBk_1) (lt_b isBk_1 (by decide)) rfl rfl (Nat.le_of_ble_eq_true rfl) (by omega) (by decide) (by decide) dX11_cheapestCover_22 (adV ?_) axN
  refine g_lv (lv' := []) [] rfl ?_
  exact w_X11_cheapestCover_25  hd    ((f_X4_cheapestByDays 1 s0 x3 v).1) (f_X4_cheapestByDays 1 s0 x3 v).2 hp hQ
def f_X11_cheapestCover_7  (x1 : Int32) (s0 : Int32) (v : gV) : (Int32 ⊕ String) × gV := Sum.elim (fun (sr5 : Int32) => f_X11_cheapestCover_21  s0 sr5 v) (fun (e : String) => (Sum.inr e, v)) (f_X11_checkedNumber x1 (0 : Int32) s0 v)
def p_X11_cheapestCover_7  (x1 : Int32) (s0 : Int32) (v : gV) : Prop := (p_X11_checkedNumber x1 (0 : Int32) s0 v) ∧ (∀ (sr5 : Int32), (f_X11_checkedNumber x1 (0 : Int32) s0 v) = Sum.inl sr5 → (p_X11_cheapestCover_21   s0 sr5 v))
set_option maxHeartbeats 4000000 in
set_option maxRecDepth 100000 in
theorem w_X11_cheapestCover_7 {E : gE} {d : Nat} {Q : gO → gS → Prop}   (hd : 8 ≤ d) (x1 : Int32) (s0 : Int32) (v : gV) (hp : p_X11_cheapestCover_7   x1 s0 v) (hQ : gqTIV Q (f_X11_cheapestCover_7  x1 s0 v)) : gG E m_X11_cheapestCover d Q 2 12 (rS v) 7 [(0, .ref (gX E + 0)), (1, .int x1)] [.int s0] := by
  refine g_istore_n [(3, .int s0), (0, .ref (gX E + 0)), (1, .int x1)] dX11_cheapestCover_7 rfl (by decide) rfl ?_
  refine g_aload_n 1 dX11_cheapestCover_8 rfl ?_
  refine r_get (.ref (gX E + 1)) f_X11_10_X11 rfl (by decide : kd 0 = (0, 8)) (show 0 < 572 by decide) dX11_cheapestCover_9 (fun _ => rfl) ?_
  refine r_get (.ref (gX E + (1 + 45))) f_X11_87_X1 rfl (kbz isBk_1) (lt_b0 isBk_1) dX11_cheapestCover_12 (fun _ => rfl) ?_
  refine g_iload_n 2 dX11_cheapestCover_15 rfl ?_
  refine g_iconst dX11_cheapestCover_16 (0 : Int32) (by decide) ?_
  refine g_iload_n 0 dX11_cheapestCover_17 rfl ?_
  obtain ⟨h4, hp⟩ := hp
  refine g_callS (rest := [.ref (gX E + (1 + 45))]) s_X11_190 rfl (c_X11_checkedNumber (E := E) (d := d - 1)   (by omega) x1 (0 : Int32) s0 v h4) rfl rfl (Nat.le_of_ble_eq_true rfl) (by omega) (by decide) (by decide) dX11_cheapestCover_18 (adTI (fun sr5 h6 => ?_)) (axTI (fun e h6 => g_outs rfl rfl (qe (P := gqTIV Q) h6 hQ)))
  have hQ := ql (P := gqTIV Q) h6 hQ
  have hp := hp sr5 h6
  refine g_lv (lv' := [(3, .int s0)]) [0] rfl ?_
  exact w_X11_cheapestCover_21  hd    s0 sr5 v hp hQ
def f_X11_cheapestCover_0  (x1 : Int32) (x2 : Int32) (v : gV) : (Int32 ⊕ String) × gV := Sum.elim (fun (sr2 : Int32) => f_X11_cheapestCover_7  x1 sr2 v) (fun (e : String) => (Sum.inr e, v)) (f_X11_checkedNumber x2 (0 : Int32) (99 : Int32) v)
def p_X11_cheapestCover_0  (x1 : Int32) (x2 : Int32) (v : gV) : Prop := (p_X11_checkedNumber x2 (0 : Int32) (99 : Int32) v) ∧ (∀ (sr2 : Int32), (f_X11_checkedNumber x2 (0 : Int32) (99 : Int32) v) = Sum.inl sr2 → (p_X11_cheapestCover_7   x1 sr2 v))
set_option maxHeartbeats 4000000 in
set_option maxRecDepth 100000 in
theorem w_X11_cheapestCover_0 {E : gE} {d : Nat} {Q : gO → gS → Prop}   (hd : 8 ≤ d) (x1 : Int32) (x2 : Int32) (v : gV) (hp : p_X11_cheapestCover_0   x1 x2 v) (hQ : gqTIV Q (f_X11_cheapestCover_0  x1 x2 v)) : gG E m_X11_cheapestCover d Q 3 18 (rS v) 0 [(0, .ref (gX E + 0)), (1, .int x1), (2, .int x2)] [] := by
  refine g_iload_n 2 dX11_cheapestCover_0 rfl ?_
  refine g_iconst dX11_cheapestCover_1 (0 : Int32) (by decide) ?_
  refine g_bipush dX11_cheapestCover_2 (99 : Int32) (by decide) ?_
  obtain ⟨h1, hp⟩ := hp
  refine g_callS (rest := []) s_X11_190 rfl (c_X11_checkedNumber (E := E) (d := d - 1)   (by omega) x2 (0 : Int32) (99 : Int32) v h1) rfl rfl (Nat.le_of_ble_eq_true rfl) (by omega) (by decide) (by decide) dX11_cheapestCover_4 (adTI (fun sr2 h3 => ?_)) (axTI (fun e h3 => g_outs rfl rfl (qe (P := gqTIV Q) h3 hQ)))
  have hQ := ql (P := gqTIV Q) h3 hQ
  have hp := hp sr2 h3
  refine g_lv (lv' := [(0, .ref (gX E + 0)), (1, .int x1)]) [0, 1] rfl ?_
  exact w_X11_cheapestCover_7  hd    x1 sr2 v hp hQ
def f_X11_cheapestCover  (x1 : Int32) (x2 : Int32) (v : gV) : (Int32 ⊕ String) × gV := f_X11_cheapestCover_0 x1 x2 v
def p_X11_cheapestCover  (x1 : Int32) (x2 : Int32) (v : gV) : Prop := p_X11_cheapestCover_0 x1 x2 v
theorem c_X11_cheapestCover {E : gE} {d : Nat}   (hd : 8 ≤ d) (x1 : Int32) (x2 : Int32) (v : gV) (hp : p_X11_cheapestCover x1 x2 v) : CT E m_X11_cheapestCover d 3 18 [.ref (gX E + 0), .int x1, .int x2] (rS v) (Cq (gOi (f_X11_cheapestCover x1 x2 v).1) (f_X11_cheapestCover x1 x2 v).2) := CT.of ok_X11_cheapestCover rfl (Nat.le_of_ble_eq_true rfl) (w_X11_cheapestCover_0  hd x1 x2 v hp ⟨rfl, rfl⟩)
def f_X11_policyByLoad_11  (s0 : Int32) (v : gV) : Int32 ⊕ String := Sum.inl s0
def p_X11_policyByLoad_11  (s0 : Int32) (v : gV) : Prop := True
set_option maxHeartbeats 4000000 in
set_option maxRecDepth 100000 in
theorem w_X11_policyByLoad_11 {E : gE} {d : Nat} {Q : gO → gS → Prop}   (hd : 8 ≤ d) (s0 : Int32) (v : gV) (hp : p_X11_policyByLoad_11   s0 v) (hQ : gqTI Q v (f_X11_policyByLoad_11  s0 v)) : gG E m_X11_policyByLoad d Q 0 0 (rS v) 11 [] [.int s0] := by
  exact g_iret rfl dX11_policyByLoad_11 hQ
def f_X11_policyByLoad_0  (x1 : Int32) (v : gV) : Int32 ⊕ String := Sum.elim (fun (sr2 : Int32) => f_X11_policyByLoad_11  sr2 v) (fun (e : String) => Sum.inr e) (f_X6_idAtRank_P 1 x1 v)
def p_X11_policyByLoad_0  (x1 : Int32) (v : gV) : Prop := (p_X6_idAtRank_P 1 x1 v) ∧ (∀ (sr2 : Int32), (f_X6_idAtRank_P 1 x1 v) = Sum.inl sr2 → (p_X11_policyByLoad_11   sr2 v))
set_option maxHeartbeats 4000000 in
set_option maxRecDepth 100000 in
theorem w_X11_policyByLoad_0 {E : gE} {d : Nat} {Q : gO → gS → Prop}   (hd : 8 ≤ d) (x1 : Int32) (v : gV) (hp : p_X11_policyByLoad_0   x1 v) (hQ : gqTI Q v (f_X11_policyByLoad_0  x1 v)) : gG E m_X11_policyByLoad d Q 1 6 (rS v) 0 [(0, .ref (gX E + 0)), (1, .int x1)] [] := by
  refine g_aload_n 0 dX11_policyByLoad_0 rfl ?_
  refine r_get (.ref (gX E + 1)) f_X11_10_X11 rfl (by decide : kd 0 = (0, 8)) (show 0 < 572 by decide) dX11_policyByLoad_1 (fun _ => rfl) ?_
  refine r_get (.ref (gX E + (1 + 1))) f_X11_108_X1 rfl (kbz isBk_1) (lt_b0 isBk_1) dX11_policyByLoad_4 (fun _ => rfl) ?_
  refine g_iload_n 1 dX11_policyByLoad_7 rfl ?_
  obtain ⟨h1, hp⟩ := hp
  refine g_callU (rest := []) s_X11_246_X5 rfl (c_X6_idAtRank_P (E := E) (d := d - 1) 1 isBk_1 (by omega) x1 v h1) (kb_1 isBk_1) (lt_b isBk_1 (by decide)) rfl rfl (Nat.le_of_ble_eq_true rfl) (by omega) (by decide) (by decide) dX11_policyByLoad_8 (adTI (fun sr2 h3 => ?_)) (axTI (fun e h3 => g_outs rfl rfl (qe (P := gqTI Q v) h3 hQ)))
  have hQ := ql (P := gqTI Q v) h3 hQ
  have hp := hp sr2 h3
  refine g_lv (lv' := []) [] rfl ?_
  exact w_X11_policyByLoad_11  hd    sr2 v hp hQ
def f_X11_policyByLoad  (x1 : Int32) (v : gV) : Int32 ⊕ String := f_X11_policyByLoad_0 x1 v
def p_X11_policyByLoad  (x1 : Int32) (v : gV) : Prop := p_X11_policyByLoad_0 x1 v
theorem c_X11_policyByLoad {E : gE} {d : Nat}   (hd : 8 ≤ d) (x1 : Int32) (v : gV) (hp : p_X11_policyByLoad x1 v) : CT E m_X11_policyByLoad d 1 6 [.ref (gX E + 0), .int x1] (rS v) (Cq (gOi (f_X11_policyByLoad x1 v)) v) := CT.of ok_X11_policyByLoad rfl (Nat.le_of_ble_eq_true rfl) (w_X11_policyByLoad_0  hd x1 v hp ⟨rfl, rfl⟩)
def f_X11_claimByUnpaid_11  (s0 : Int32) (v : gV) : Int32 ⊕ String := Sum.inl s0
def p_X11_claimByUnpaid_11  (s0 : Int32) (v : gV) : Prop := True
set_option maxHeartbeats 4000000 in
set_option maxRecDepth 100000 in
theorem w_X11_claimByUnpaid_11 {E : gE} {d : Nat} {Q : gO → gS → Prop}   (hd : 8 ≤ d) (s0 : Int32) (v : gV) (hp : p_X11_claimByUnpaid_11   s0 v) (hQ : gqTI Q v (f_X11_claimByUnpaid_11  s0 v)) : gG E m_X11_claimByUnpaid d Q 0 0 (rS v) 11 [] [.int s0] := by
  exact g_iret rfl dX11_claimByUnpaid_11 hQ
def f_X11_claimByUnpaid_0  (x1 : Int32) (v : gV) : Int32 ⊕ String := Sum.elim (fun (sr2 : Int32) => f_X11_claimByUnpaid_11  sr2 v) (fun (e : String) => Sum.inr e) (f_X6_idAtRank_C 1 x1 v)
def p_X11_claimByUnpaid_0  (x1 : Int32) (v : gV) : Prop := (p_X6_idAtRank_C 1 x1 v) ∧ (∀ (sr2 : Int32), (f_X6_idAtRank_C 1 x1 v) = Sum.inl sr2 → (p_X11_claimByUnpaid_11   sr2 v))
set_option maxHeartbeats 4000000 in
set_option maxRecDepth 100000 in
theorem w_X11_claimByUnpaid_0 {E : gE} {d : Nat} {Q : gO → gS → Prop}   (hd : 8 ≤ d) (x1 : Int32) (v : gV) (hp : p_X11_claimByUnpaid_0   x1 v) (hQ : gqTI Q v (f_X11_claimByUnpaid_0  x1 v)) : gG E m_X11_claimByUnpaid d Q 1 6 (rS v) 0 [(0, .ref (gX E + 0)), (1, .int x1)] [] := by
  refine g_aload_n 0 dX11_claimByUnpaid_0 rfl ?_
  refine r_get (.ref (gX E + 1)) f_X11_10_X11 rfl (by decide : kd 0 = (0, 8)) (show 0 < 572 by decide) dX11_claimByUnpaid_1 (fun _ => rfl) ?_
  refine r_get (.ref (gX E + (1 + 10))) f_X11_146_X1 rfl (kbz isBk_1) (lt_b0 isBk_1) dX11_claimByUnpaid_4 (fun _ => rfl) ?_
  refine g_iload_n 1 dX11_claimByUnpaid_7 rfl ?_
  obtain ⟨h1, hp⟩ := hp
  refine g_callU (rest := []) s_X11_249_X2 rfl (c_X6_idAtRank_C (E := E) (d := d - 1) 1 isBk_1 (by omega) x1 v h1) (kb_10 isBk_1) (lt_b isBk_1 (by decide)) rfl rfl (Nat.le_of_ble_eq_true rfl) (by omega) (by decide) (by decide) dX11_claimByUnpaid_8 (adTI (fun sr2 h3 => ?_)) (axTI (fun e h3 => g_outs rfl rfl (qe (P := gqTI Q v) h3 hQ)))
  have hQ := ql (P := gqTI Q v) h3 hQ
  have hp := hp sr2 h3
  refine g_lv (lv' := []) [] rfl ?_
  exact w_X11_claimByUnpaid_11  hd    sr2 v hp hQ
def f_X11_claimByUnpaid  (x1 : Int32) (v : gV) : Int32 ⊕ String := f_X11_claimByUnpaid_0 x1 v
def p_X11_claimByUnpaid  (x1 : Int32) (v : gV) : Prop := p_X11_claimByUnpaid_0 x1 v
theorem c_X11_claimByUnpaid {E : gE} {d : Nat}   (hd : 8 ≤ d) (x1 : Int32) (v : gV) (hp : p_X11_claimByUnpaid x1 v) : CT E m_X11_claimByUnpaid d 1 6 [.ref (gX E + 0), .int x1] (rS v) (Cq (gOi (f_X11_claimByUnpaid x1 v)) v) := CT.of ok_X11_claimByUnpaid rfl (Nat.le_of_ble_eq_true rfl) (w_X11_claimByUnpaid_0  hd x1 v hp ⟨rfl, rfl⟩)
def f_X11_meanSum_0   (v : gV) : UInt64 ⊕ String := if (v.1 (1 + 1) 1) = 0 then (Sum.inr "java/lang/ArithmeticException") else (Sum.inl (FP.ddiv (FP.i2d (f_X11_sumOfRow (1 + 3) 8 (v.1 (1 + 1) 1) v)) (FP.i2d (v.1 (1 + 1) 1))))
def p_X11_meanSum_0   (v : gV) : Prop := (((v.1 (1 + 1) 1) = 0) → (True)) ∧ (¬ ((v.1 (1 + 1) 1) = 0) → ((p_X11_sumOfRow (1 + 3) 8 (v.1 (1 + 1) 1) v) ∧ ((vf_n64 (FP.ddiv (FP.i2d (f_X11_sumOfRow (1 + 3) 8 (v.1 (1 + 1) 1) v)) (FP.i2d (v.1 (1 + 1) 1)))) ∧ (True))))
set_option maxHeartbeats 4000000 in
set_option maxRecDepth 100000 in
theorem w_X11_meanSum_0 {E : gE} {d : Nat} {Q : gO → gS → Prop}   (hd : 7 ≤ d)  (v : gV) (hp : p_X11_meanSum_0    v) (hQ : gqTD Q v (f_X11_meanSum_0   v)) : gG E m_X11_meanSum d Q 1 6 (rS v) 0 [(0, .ref (gX E + 0))] [] := by
  refine g_aload_n 0 dX11_meanSum_0 rfl ?_
  refine r_get (.ref (gX E + 1)) f_X11_10_X11 rfl (by decide : kd 0 = (0, 8)) (show 0 < 572 by decide) dX11_meanSum_1 (fun _ => rfl) ?_
  refine r_get (.ref (gX E + (1 + 1))) f_X11_108_X1 rfl (kbz isBk_1) (lt_b0 isBk_1) dX11_meanSum_4 (fun _ => rfl) ?_
  refine r_get (.int (v.1 (1 + 1) 1)) f_X11_112_X5 rfl (kb_1 isBk_1) (lt_b isBk_1 (by decide)) dX11_meanSum_7 (fun _ => rfl) ?_
  refine g_if_ne 23 dX11_meanSum_10 (by decide) (fun h1 => ?_) (fun h1 => ?_)
  · have hQ := qn (P := gqTD Q v) h1 hQ
    have hp := hp.2 h1
    refine g_aload_n 0 dX11_meanSum_23 rfl ?_
    refine r_get (.ref (gX E + 1)) f_X11_10_X11 rfl (by decide : kd 0 = (0, 8)) (show 0 < 572 by decide) dX11_meanSum_24 (fun _ => rfl) ?_
    refine r_get (.ref (gX E + (1 + 1))) f_X11_108_X1 rfl (kbz isBk_1) (lt_b0 isBk_1) dX11_meanSum_27 (fun _ => rfl) ?_
    refine r_get (.ref (gX E + (1 + 3))) f_X11_124_X5 rfl (kb_1 isBk_1) (lt_b isBk_1 (by decide)) dX11_meanSum_30 (fun _ => rfl) ?_
    refine g_aload_n 0 dX11_meanSum_33 rfl ?_
    refine r_get (.ref (gX E + 1)) f_X11_10_X11 rfl (by decide : kd 0 = (0, 8)) (show 0 < 572 by decide) dX11_meanSum_34 (fun _ => rfl) ?_
    refine r_get (.ref (gX E + (1 + 1))) f_X11_108_X1 rfl (kbz isBk_1) (lt_b0 isBk_1) dX11_meanSum_37 (fun _ => rfl) ?_
    refine r_get (.int (v.1 (1 + 1) 1)) f_X11_112_X5 rfl (kb_1 isBk_1) (lt_b isBk_1 (by decide)) dX11_meanSum_40 (fun _ => rfl) ?_
    obtain ⟨h2, hp⟩ := hp
    refine g_callS (rest := []) s_X11_257 rfl (c_X11_sumOfRow (E := E) (d := d - 1) (1 + 3) 8 (by decide) (kb_3 isBk_1) (lt_b isBk_1 (by decide)) (by omega) (v.1 (1 + 1) 1) v h2) rfl rfl (Nat.le_of_ble_eq_true rfl) (by omega) (by decide) (by decide) dX11_meanSum_43 (adV ?_) axN
    refine g_i2d dX11_meanSum_46 ?_
    refine g_aload_n 0 dX11_meanSum_47 rfl ?_
    refine r_get (.ref (gX E + 1)) f_X11_10_X11 rfl (by decide : kd 0 = (0, 8)) (show 0 < 572 by decide) dX11_meanSum_48 (fun _ => rfl) ?_
    refine r_get (.ref (gX E + (1 + 1))) f_X11_108_X1 rfl (kbz isBk_1) (lt_b0 isBk_1) dX11_meanSum_51 (fun _ => rfl) ?_
    refine r_get (.int (v.1 (1 + 1) 1)) f_X11_112_X5 rfl (kb_1 isBk_1) (lt_b isBk_1 (by decide)) dX11_meanSum_54 (fun _ => rfl) ?_
    refine g_i2d dX11_meanSum_57 ?_
    obtain ⟨h3, hp⟩ := hp
    refine g_ddiv dX11_meanSum_58 h3 ?_
    exact g_dret rfl dX11_meanSum_59 hQ
  · have hQ := qp (P := gqTD Q v) h1 hQ
    have hp := hp.1 h1
    exact g_throwS rfl t_X11_250_252 rfl rfl rfl (by omega) (by decide) (by decide) (Nat.le_of_ble_eq_true rfl) dX11_meanSum_13 dX11_meanSum_16 dX11_meanSum_17 dX11_meanSum_19 dX11_meanSum_22 hQ
def f_X11_meanSum   (v : gV) : UInt64 ⊕ String := f_X11_meanSum_0  v
def p_X11_meanSum   (v : gV) : Prop := p_X11_meanSum_0  v
theorem c_X11_meanSum {E : gE} {d : Nat}   (hd : 7 ≤ d)  (v : gV) (hp : p_X11_meanSum  v) : CT E m_X11_meanSum d 1 6 [.ref (gX E + 0)] (rS v) (Cq (gOd (f_X11_meanSum  v)) v) := CT.of ok_X11_meanSum rfl (Nat.le_of_ble_eq_true rfl) (w_X11_meanSum_0  hd  v hp ⟨rfl, rfl⟩)
def f_X11_paidShare_0   (v : gV) : UInt32 ⊕ String := if (f_X11_sumOfRow (1 + 14) 12 (v.1 (1 + 10) 1) v) = 0 then (Sum.inr "java/lang/ArithmeticException") else (Sum.inl (FP.fdiv (FP.i2f (f_X11_sumOfRow (1 + 15) 12 (v.1 (1 + 10) 1) v)) (FP.i2f (f_X11_sumOfRow (1 + 14) 12 (v.1 (1 + 10) 1) v))))
def p_X11_paidShare_0   (v : gV) : Prop := (p_X11_sumOfRow (1 + 14) 12 (v.1 (1 + 10) 1) v) ∧ ((((f_X11_sumOfRow (1 + 14) 12 (v.1 (1 + 10) 1) v) = 0) → (True)) ∧ (¬ ((f_X11_sumOfRow (1 + 14) 12 (v.1 (1 + 10) 1) v) = 0) → ((p_X11_sumOfRow (1 + 15) 12 (v.1 (1 + 10) 1) v) ∧ ((vf_n32 (FP.fdiv (FP.i2f (f_X11_sumOfRow (1 + 15) 12 (v.1 (1 + 10) 1) v)) (FP.i2f (f_X11_sumOfRow (1 + 14) 12 (v.1 (1 + 10) 1) v)))) ∧ (True)))))
set_option maxHeartbeats 4000000 in
set_option maxRecDepth 100000 in
theorem w_X11_paidShare_0 {E : gE} {d : Nat} {Q : gO → gS → Prop}   (hd : 7 ≤ d)  (v : gV) (hp : p_X11_paidShare_0    v) (hQ : gqTF Q v (f_X11_paidShare_0   v)) : gG E m_X11_paidShare d Q 1 6 (rS v) 0 [(0, .ref (gX E + 0))] [] := by
  refine g_aload_n 0 dX11_paidShare_0 rfl ?_
  refine r_get (.ref (gX E + 1)) f_X11_10_X11 rfl (by decide : kd 0 = (0, 8)) (show 0 < 572 by decide) dX11_paidShare_1 (fun _ => rfl) ?_
  refine r_get (.ref (gX E + (1 + 10))) f_X11_146_X1 rfl (kbz isBk_1) (lt_b0 isBk_1) dX11_paidShare_4 (fun _ => rfl) ?_
  refine r_get (.ref (gX E + (1 + 14))) f_X11_161_X2 rfl (kb_10 isBk_1) (lt_b isBk_1 (by decide)) dX11_paidShare_7 (fun _ => rfl) ?_
  refine g_aload_n 0 dX11_paidShare_10 rfl ?_
  refine r_get (.ref (gX E + 1)) f_X11_10_X11 rfl (by decide : kd 0 = (0, 8)) (show 0 < 572 by decide) dX11_paidShare_11 (fun _ => rfl) ?_
  refine r_get (.ref (gX E + (1 + 10))) f_X11_146_X1 rfl (kbz isBk_1) (lt_b0 isBk_1) dX11_paidShare_14 (fun _ => rfl) ?_
  refine r_get (.int (v.1 (1 + 10) 1)) f_X11_150_X2 rfl (kb_10 isBk_1) (lt_b isBk_1 (by decide)) dX11_paidShare_17 (fun _ => rfl) ?_
  obtain ⟨h1, hp⟩ := hp
  refine g_callS (rest := []) s_X11_257 rfl (c_X11_sumOfRow (E := E) (d := d - 1) (1 + 14) 12 (by decide) (kb_14 isBk_1) (lt_b isBk_1 (by decide)) (by omega) (v.1 (1 + 10) 1) v h1) rfl rfl (Nat.le_of_ble_eq_true rfl) (by omega) (by decide) (by decide) dX11_paidShare_20 (adV ?_) axN
  refine g_istore_n [(1, .int ((f_X11_sumOfRow (1 + 14) 12 (v.1 (1 + 10) 1) v))), (0, .ref (gX E + 0))] dX11_paidShare_23 rfl (by decide) rfl ?_
  refine g_iload_n 0 dX11_paidShare_24 rfl ?_
  refine g_if_ne 39 dX11_paidShare_25 (by decide) (fun h2 => ?_) (fun h2 => ?_)
  · have hQ := qn (P := gqTF Q v) h2 hQ
    have hp := hp.2 h2
    refine g_aload_n 1 dX11_paidShare_39 rfl ?_
    refine r_get (.ref (gX E + 1)) f_X11_10_X11 rfl (by decide : kd 0 = (0, 8)) (show 0 < 572 by decide) dX11_paidShare_40 (fun _ => rfl) ?_
    refine r_get (.ref (gX E + (1 + 10))) f_X11_146_X1 rfl (kbz isBk_1) (lt_b0 isBk_1) dX11_paidShare_43 (fun _ => rfl) ?_
    refine r_get (.ref (gX E + (1 + 15))) f_X11_164_X2 rfl (kb_10 isBk_1) (lt_b isBk_1 (by decide)) dX11_paidShare_46 (fun _ => rfl) ?_
    refine g_aload_n 1 dX11_paidShare_49 rfl ?_
    refine r_get (.ref (gX E + 1)) f_X11_10_X11 rfl (by decide : kd 0 = (0, 8)) (show 0 < 572 by decide) dX11_paidShare_50 (fun _ => rfl) ?_
    refine r_get (.ref (gX E + (1 + 10))) f_X11_146_X1 rfl (kbz isBk_1) (lt_b0 isBk_1) dX11_paidShare_53 (fun _ => rfl) ?_
    refine r_get (.int (v.1 (1 + 10) 1)) f_X11_150_X2 rfl (kb_10 isBk_1) (lt_b isBk_1 (by decide)) dX11_paidShare_56 (fun _ => rfl) ?_
    obtain ⟨h3, hp⟩ := hp
    refine g_callS (rest := []) s_X11_257 rfl (c_X11_sumOfRow (E := E) (d := d - 1) (1 + 15) 12 (by decide) (kb_15 isBk_1) (lt_b isBk_1 (by decide)) (by omega) (v.1 (1 + 10) 1) v h3) rfl rfl (Nat.le_of_ble_eq_true rfl) (by omega) (by decide) (by decide) dX11_paidShare_59 (adV ?_) axN
    refine g_i2f dX11_paidShare_62 ?_
    refine g_iload_n 0 dX11_paidShare_63 rfl ?_
    refine g_i2f dX11_paidShare_64 ?_
    obtain ⟨h4, hp⟩ := hp
    refine g_fdiv dX11_paidShare_65 h4 ?_
    exact g_fret rfl dX11_paidShare_66 hQ
  · have hQ := qp (P := gqTF Q v) h2 hQ
    have hp := hp.1 h2
    exact g_throwSW rfl t_X11_250_261 rfl rfl rfl (by omega) (by decide) (by decide) (Nat.le_of_ble_eq_true rfl) dX11_paidShare_28 dX11_paidShare_31 dX11_paidShare_32 dX11_paidShare_35 dX11_paidShare_38 hQ
def f_X11_paidShare   (v : gV) : UInt32 ⊕ String := f_X11_paidShare_0  v
def p_X11_paidShare   (v : gV) : Prop := p_X11_paidShare_0  v
theorem c_X11_paidShare {E : gE} {d : Nat}   (hd : 7 ≤ d)  (v : gV) (hp : p_X11_paidShare  v) : CT E m_X11_paidShare d 1 6 [.ref (gX E + 0)] (rS v) (Cq (gOf (f_X11_paidShare  v)) v) := CT.of ok_X11_paidShare rfl (Nat.le_of_ble_eq_true rfl) (w_X11_paidShare_0  hd  v hp ⟨rfl, rfl⟩)
def f_X11_errorPosition_7  (s0 : Int32) (v : gV) : Int32 ⊕ String := Sum.inl s0
def p_X11_errorPosition_7  (s0 : Int32) (v : gV) : Prop := True
set_option maxHeartbeats 4000000 in
set_option maxRecDepth 100000 in
theorem w_X11_errorPosition_7 {E : gE} {d : Nat} {Q : gO → gS → Prop}   (hd : 8 ≤ d) (s0 : Int32) (v : gV) (hp : p_X11_errorPosition_7   s0 v) (hQ : gqTI Q v (f_X11_errorPosition_7  s0 v)) : gG E m_X11_errorPosition d Q 0 0 (rS v) 7 [] [.int s0] := by
  exact g_iret rfl dX11_errorPosition_7 hQ
def f_X11_errorPosition_0   (v : gV) : Int32 ⊕ String := Sum.elim (fun (sr2 : Int32) => f_X11_errorPosition_7  sr2 v) (fun (e : String) => Sum.inr e) (f_X11_known (v.1 0 6) v)
def p_X11_errorPosition_0   (v : gV) : Prop := (p_X11_known (v.1 0 6) v) ∧ (∀ (sr2 : Int32), (f_X11_known (v.1 0 6) v) = Sum.inl sr2 → (p_X11_errorPosition_7   sr2 v))
set_option maxHeartbeats 4000000 in
set_option maxRecDepth 100000 in
theorem w_X11_errorPosition_0 {E : gE} {d : Nat} {Q : gO → gS → Prop}   (hd : 8 ≤ d)  (v : gV) (hp : p_X11_errorPosition_0    v) (hQ : gqTI Q v (f_X11_errorPosition_0   v)) : gG E m_X11_errorPosition d Q 1 6 (rS v) 0 [(0, .ref (gX E + 0))] [] := by
  refine g_aload_n 0 dX11_errorPosition_0 rfl ?_
  refine r_get (.int (v.1 0 6)) f_X11_44_X11 rfl (by decide : kd 0 = (0, 8)) (show 0 < 572 by decide) dX11_errorPosition_1 (fun _ => rfl) ?_
  obtain ⟨h1, hp⟩ := hp
  refine g_callS (rest := []) s_X11_329 rfl (c_X11_known (E := E) (d := d - 1)   (by omega) (v.1 0 6) v h1) rfl rfl (Nat.le_of_ble_eq_true rfl) (by omega) (by decide) (by decide) dX11_errorPosition_4 (adTI (fun sr2 h3 => ?_)) (axTI (fun e h3 => g_outs rfl rfl (qe (P := gqTI Q v) h3 hQ)))
  have hQ := ql (P := gqTI Q v) h3 hQ
  have hp := hp sr2 h3
  refine g_lv (lv' := []) [] rfl ?_
  exact w_X11_errorPosition_7  hd    sr2 v hp hQ
def f_X11_errorPosition   (v : gV) : Int32 ⊕ String := f_X11_errorPosition_0  v
def p_X11_errorPosition   (v : gV) : Prop := p_X11_errorPosition_0  v
theorem c_X11_errorPosition {E : gE} {d : Nat}   (hd : 8 ≤ d)  (v : gV) (hp : p_X11_errorPosition  v) : CT E m_X11_errorPosition d 1 6 [.ref (gX E + 0)] (rS v) (Cq (gOi (f_X11_errorPosition  v)) v) := CT.of ok_X11_errorPosition rfl (Nat.le_of_ble_eq_true rfl) (w_X11_errorPosition_0  hd  v hp ⟨rfl, rfl⟩)
def f_X11_failedCommand_7  (s0 : Int32) (v : gV) : Int32 ⊕ String := Sum.inl s0
def p_X11_failedCommand_7  (s0 : Int32) (v : gV) : Prop := True
set_option maxHeartbeats 4000000 in
set_option maxRecDepth 100000 in
theorem w_X11_failedCommand_7 {E : gE} {d : Nat} {Q : gO → gS → Prop}   (hd : 8 ≤ d) (s0 : Int32) (v : gV) (hp : p_X11_failedCommand_7   s0 v) (hQ : gqTI Q v (f_X11_failedCommand_7  s0 v)) : gG E m_X11_failedCommand d Q 0 0 (rS v) 7 [] [.int s0] := by
  exact g_iret rfl dX11_failedCommand_7 hQ
def f_X11_failedCommand_0   (v : gV) : Int32 ⊕ String := Sum.elim (fun (sr2 : Int32) => f_X11_failedCommand_7  sr2 v) (fun (e : String) => Sum.inr e) (f_X11_known (v.1 0 7) v)
def p_X11_failedCommand_0   (v : gV) : Prop := (p_X11_known (v.1 0 7) v) ∧ (∀ (sr2 : Int32), (f_X11_known (v.1 0 7) v) = Sum.inl sr2 → (p_X11_failedCommand_7   sr2 v))
set_option maxHeartbeats 4000000 in
set_option maxRecDepth 100000 in
theorem w_X11_failedCommand_0 {E : gE} {d : Nat} {Q : gO → gS → Prop}   (hd : 8 ≤ d)  (v : gV) (hp : p_X11_failedCommand_0    v) (hQ : gqTI Q v (f_X11_failedCommand_0   v)) : gG E m_X11_failedCommand d Q 1 6 (rS v) 0 [(0, .ref (gX E + 0))] [] := by
  refine g_aload_n 0 dX11_failedCommand_0 rfl ?_
  refine r_get (.int (v.1 0 7)) f_X11_48_X11 rfl (by decide : kd 0 = (0, 8)) (show 0 < 572 by decide) dX11_failedCommand_1 (fun _ => rfl) ?_
  obtain ⟨h1, hp⟩ := hp
  refine g_callS (rest := []) s_X11_329 rfl (c_X11_known (E := E) (d := d - 1)   (by omega) (v.1 0 7) v h1) rfl rfl (Nat.le_of_ble_eq_true rfl) (by omega) (by decide) (by decide) dX11_failedCommand_4 (adTI (fun sr2 h3 => ?_)) (axTI (fun e h3 => g_outs rfl rfl (qe (P := gqTI Q v) h3 hQ)))
  have hQ := ql (P := gqTI Q v) h3 hQ
  have hp := hp sr2 h3
  refine g_lv (lv' := []) [] rfl ?_
  exact w_X11_failedCommand_7  hd    sr2 v hp hQ
def f_X11_failedCommand   (v : gV) : Int32 ⊕ String := f_X11_failedCommand_0  v
def p_X11_failedCommand   (v : gV) : Prop := p_X11_failedCommand_0  v
theorem c_X11_failedCommand {E : gE} {d : Nat}   (hd : 8 ≤ d)  (v : gV) (hp : p_X11_failedCommand  v) : CT E m_X11_failedCommand d 1 6 [.ref (gX E + 0)] (rS v) (Cq (gOi (f_X11_failedCommand  v)) v) := CT.of ok_X11_failedCommand rfl (Nat.le_of_ble_eq_true rfl) (w_X11_failedCommand_0  hd  v hp ⟨rfl, rfl⟩)
def f_X12_hasClaim_2  : Nat → Int32 → Int32 → gV → Int32
  | 0, _, _, v => 0
  | n + 1, x1, x2, v => if (v.1 560 (1 : Int32).toNatClampNeg) ≤ x2 then ((0 : Int32)) else (if (f_X12_c x2 (1 : Int32) v) = x1 then ((1 : Int32)) else (f_X12_hasClaim_2  n x1 (x2 + 1) v))
def p_X12_hasClaim_2  : Nat → Int32 → Int32 → gV → Prop
  | 0, _, _, _ => False
  | n + 1, x1, x2, v => (((v.1 560 (1 : Int32).toNatClampNeg) ≤ x2) → (True)) ∧ (¬ ((v.1 560 (1 : Int32).toNatClampNeg) ≤ x2) → ((p_X12_c x2 (1 : Int32) v) ∧ ((((f_X12_c x2 (1 : Int32) v) = x1) → (True)) ∧ (¬ ((f_X12_c x2 (1 : Int32) v) = x1) → (p_X12_hasClaim_2   n x1 (x2 + 1) v)))))
set_option maxHeartbeats 4000000 in
set_option maxRecDepth 100000 in
theorem w_X12_hasClaim_2 {E : gE} {d : Nat} {Q : gO → gS → Prop}   (hd : 1 ≤ d) : ∀ (n : Nat) (x1 : Int32) (x2 : Int32) (v : gV), p_X12_hasClaim_2   n x1 x2 v → gqI Q v (f_X12_hasClaim_2  n x1 x2 v) → gG E m_X12_hasClaim d Q 0 0 (rS v) 2 [(0, .ref (gX E + 559)), (1, .int x1), (2, .int x2)] [] := by
  intro n
  induction n with
  | zero => intro x1 x2 v hp; exact hp.elim
  | succ n ih =>
    intro x1 x2 v hp hQ
    refine g_iload_n 2 dX12_hasClaim_2 rfl ?_
    refine g_aload_n 0 dX12_hasClaim_3 rfl ?_
    refine r_get (.ref (gX E + 560)) f_X12_7_X12 rfl (by decide : kd 559 = (0, 9)) (show 559 < 572 by decide) dX12_hasClaim_4 (fun _ => rfl) ?_
    refine g_iconst dX12_hasClaim_7 (1 : Int32) (by decide) ?_
    refine g_iald (by decide : kd 560 = (1, 300)) (show 560 < 572 by decide) (show ¬ (_ ∨ _) by decide) dX12_hasClaim_8 ?_
    refine g_icmp_ge 30 dX12_hasClaim_9 (by decide) (fun h1 => ?_) (fun h1 => ?_)
    · have hQ := qp (P := gqI Q v) h1 hQ
      have hp := hp.1 h1
      refine g_iconst dX12_hasClaim_30 (0 : Int32) (by decide) ?_
      exact g_zret rfl rfl dX12_hasClaim_31 hQ
    · have hQ := qn (P := gqI Q v) h1 hQ
      have hp := hp.2 h1
      refine g_aload_n 0 dX12_hasClaim_12 rfl ?_
      refine g_iload_n 2 dX12_hasClaim_13 rfl ?_
      refine g_iconst dX12_hasClaim_14 (1 : Int32) (by decide) ?_
      obtain ⟨h2, hp⟩ := hp
      refine g_callV (rest := []) s_X12_104_X12 rfl (c_X12_c (E := E) (d := d - 1)   (by omega) x2 (1 : Int32) v h2) (by decide : kd 559 = (0, 9)) (show 559 < 572 by decide) rfl rfl (Nat.le_of_ble_eq_true rfl) (by omega) (by decide) (by decide) dX12_hasClaim_15 (adV ?_) axN
      refine g_iload_n 1 dX12_hasClaim_18 rfl ?_
      refine g_icmp_ne 24 dX12_hasClaim_19 (by decide) (fun h3 => ?_) (fun h3 => ?_)
      · have hQ := qn (P := gqI Q v) h3 hQ
        have hp := hp.2 h3
        refine g_iinc 2 (x2 + 1) [(2, .int (x2 + 1)), (0, .ref (gX E + 559)), (1, .int x1)] dX12_hasClaim_24 rfl rfl (by decide) rfl ?_
        refine g_goto 2 dX12_hasClaim_27 (by decide) ?_
        refine g_lv (lv' := [(0, .ref (gX E + 559)), (1, .int x1), (2, .int (x2 + 1))]) [1, 2, 0] rfl ?_
        exact ih x1 (x2 + 1) v hp hQ
      · have hQ := qp (P := gqI Q v) h3 hQ
        have hp := hp.1 h3
        refine g_iconst dX12_hasClaim_22 (1 : Int32) (by decide) ?_
        exact g_zret rfl rfl dX12_hasClaim_23 hQ
def f_X12_hasClaim_0  (x1 : Int32) (v : gV) : Int32 := f_X12_hasClaim_2  5000 x1 (0 : Int32) v
def p_X12_hasClaim_0  (x1 : Int32) (v : gV) : Prop := p_X12_hasClaim_2   5000 x1 (0 : Int32) v
set_option maxHeartbeats 4000000 in
set_option maxRecDepth 100000 in
theorem w_X12_hasClaim_0 {E : gE} {d : Nat} {Q : gO → gS → Prop}   (hd : 1 ≤ d) (x1 : Int32) (v : gV) (hp : p_X12_hasClaim_0   x1 v) (hQ : gqI Q v (f_X12_hasClaim_0  x1 v)) : gG E m_X12_hasClaim d Q 0 0 (rS v) 0 [(0, .ref (gX E + 559)), (1, .int x1)] [] := by
  refine g_iconst dX12_hasClaim_0 (0 : Int32) (by decide) ?_
  refine g_istore_n [(2, .int ((0 : Int32))), (0, .ref (gX E + 559)), (1, .int x1)] dX12_hasClaim_1 rfl (by decide) rfl ?_
  refine g_lv (lv' := [(0, .ref (gX E + 559)), (1, .int x1), (2, .int ((0 : Int32)))]) [1, 2, 0] rfl ?_
  exact w_X12_hasClaim_2  hd    5000 x1 (0 : Int32) v hp hQ
def f_X12_hasClaim  (x1 : Int32) (v : gV) : Int32 := f_X12_hasClaim_0 x1 v
def p_X12_hasClaim  (x1 : Int32) (v : gV) : Prop := p_X12_hasClaim_0 x1 v
theorem c_X12_hasClaim {E : gE} {d : Nat}   (hd : 1 ≤ d) (x1 : Int32) (v : gV) (hp : p_X12_hasClaim x1 v) : CT E m_X12_hasClaim d 0 0 [.ref (gX E + 559), .int x1] (rS v) (Cq (.inl (some (.int (f_X12_hasClaim x1 v)))) v) := CT.of ok_X12_hasClaim rfl (Nat.le_of_ble_eq_true rfl) (w_X12_hasClaim_0  hd x1 v hp ⟨rfl, rfl⟩)
def f_X12_cannotEnd_25  (s0 : Int32) (v : gV) : Int32 := s0
def p_X12_cannotEnd_25  (s0 : Int32) (v : gV) : Prop := True
set_option maxHeartbeats 4000000 in
set_option maxRecDepth 100000 in
theorem w_X12_cannotEnd_25 {E : gE} {d : Nat} {Q : gO → gS → Prop}   (hd : 2 ≤ d) (s0 : Int32) (v : gV) (hp : p_X12_cannotEnd_25   s0 v) (hQ : gqI Q v (f_X12_cannotEnd_25  s0 v)) : gG E m_X12_cannotEnd d Q 0 0 (rS v) 25 [] [.int s0] := by
  exact g_iret rfl dX12_cannotEnd_25 hQ
def f_X12_cannotEnd_0  (x1 : Int32) (v : gV) : Int32 := if 0 ≤ (f_X12_policy x1 v) then (if (f_X12_hasClaim x1 v) = 0 then (f_X12_cannotEnd_25  (0 : Int32) v) else (f_X12_cannotEnd_25  (2 : Int32) v)) else (f_X12_cannotEnd_25  (1 : Int32) v)
def p_X12_cannotEnd_0  (x1 : Int32) (v : gV) : Prop := (p_X12_policy x1 v) ∧ (((0 ≤ (f_X12_policy x1 v)) → ((p_X12_hasClaim x1 v) ∧ ((((f_X12_hasClaim x1 v) = 0) → (p_X12_cannotEnd_25   (0 : Int32) v)) ∧ (¬ ((f_X12_hasClaim x1 v) = 0) → (p_X12_cannotEnd_25   (2 : Int32) v))))) ∧ (¬ (0 ≤ (f_X12_policy x1 v)) → (p_X12_cannotEnd_25   (1 : Int32) v)))
set_option maxHeartbeats 4000000 in
set_option maxRecDepth 100000 in
theorem w_X12_cannotEnd_0 {E : gE} {d : Nat} {Q : gO → gS → Prop}   (hd : 2 ≤ d) (x1 : Int32) (v : gV) (hp : p_X12_cannotEnd_0   x1 v) (hQ : gqI Q v (f_X12_cannotEnd_0  x1 v)) : gG E m_X12_cannotEnd d Q 0 0 (rS v) 0 [(0, .ref (gX E + 559)), (1, .int x1)] [] := by
  refine g_aload_n 0 dX12_cannotEnd_0 rfl ?_
  refine g_iload_n 1 dX12_cannotEnd_1 rfl ?_
  obtain ⟨h1, hp⟩ := hp
  refine g_callV (rest := []) s_X12_107_X12 rfl (c_X12_policy (E := E) (d := d - 1)   (by omega) x1 v h1) (by decide : kd 559 = (0, 9)) (show 559 < 572 by decide) rfl rfl (Nat.le_of_ble_eq_true rfl) (by omega) (by decide) (by decide) dX12_cannotEnd_2 (adV ?_) axN
  refine g_if_ge 12 dX12_cannotEnd_5 (by decide) (fun h2 => ?_) (fun h2 => ?_)
  · have hQ := qp (P := gqI Q v) h2 hQ
    have hp := hp.1 h2
    refine g_aload_n 0 dX12_cannotEnd_12 rfl ?_
    refine g_iload_n 1 dX12_cannotEnd_13 rfl ?_
    obtain ⟨h3, hp⟩ := hp
    refine g_callV (rest := []) s_X12_110_X12 rfl (c_X12_hasClaim (E := E) (d := d - 1)   (by omega) x1 v h3) (by decide : kd 559 = (0, 9)) (show 559 < 572 by decide) rfl rfl (Nat.le_of_ble_eq_true rfl) (by omega) (by decide) (by decide) dX12_cannotEnd_14 (adV ?_) axN
    refine g_if_eq 24 dX12_cannotEnd_17 (by decide) (fun h4 => ?_) (fun h4 => ?_)
    · have hQ := qp (P := gqI Q v) h4 hQ
      have hp := hp.1 h4
      refine g_iconst dX12_cannotEnd_24 (0 : Int32) (by decide) ?_
      refine g_lv (lv' := []) [] rfl ?_
      exact w_X12_cannotEnd_25  hd    (0 : Int32) v hp hQ
    · have hQ := qn (P := gqI Q v) h4 hQ
      have hp := hp.2 h4
      refine g_iconst dX12_cannotEnd_20 (2 : Int32) (by decide) ?_
      refine g_goto 25 dX12_cannotEnd_21 (by decide) ?_
      refine g_lv (lv' := []) [] rfl ?_
      exact w_X12_cannotEnd_25  hd    (2 : Int32) v hp hQ
  · have hQ := qn (P := gqI Q v) h2 hQ
    have hp := hp.2 h2
    refine g_iconst dX12_cannotEnd_8 (1 : Int32) (by decide) ?_
    refine g_goto 25 dX12_cannotEnd_9 (by decide) ?_
    refine g_lv (lv' := []) [] rfl ?_
    exact w_X12_cannotEnd_25  hd    (1 : Int32) v hp hQ
def f_X12_cannotEnd  (x1 : Int32) (v : gV) : Int32 := f_X12_cannotEnd_0 x1 v
def p_X12_cannotEnd  (x1 : Int32) (v : gV) : Prop := p_X12_cannotEnd_0 x1 v
theorem c_X12_cannotEnd {E : gE} {d : Nat}   (hd : 2 ≤ d) (x1 : Int32) (v : gV) (hp : p_X12_cannotEnd x1 v) : CT E m_X12_cannotEnd d 0 0 [.ref (gX E + 559), .int x1] (rS v) (Cq (.inl (some (.int (f_X12_cannotEnd x1 v)))) v) := CT.of ok_X12_cannotEnd rfl (Nat.le_of_ble_eq_true rfl) (w_X12_cannotEnd_0  hd x1 v hp ⟨rfl, rfl⟩)
def f_X12_endPolicy_31  (s0 : Int32) (v : gV) : Int32 × gV := (s0, v)
def p_X12_endPolicy_31  (s0 : Int32) (v : gV) : Prop := True
set_option maxHeartbeats 4000000 in
set_option maxRecDepth 100000 in
theorem w_X12_endPolicy_31 {E : gE} {d : Nat} {Q : gO → gS → Prop}   (hd : 3 ≤ d) (s0 : Int32) (v : gV) (hp : p_X12_endPolicy_31   s0 v) (hQ : gqIV Q (f_X12_endPolicy_31  s0 v)) : gG E m_X12_endPolicy d Q 0 0 (rS v) 31 [] [.int s0] := by
  exact g_iret rfl dX12_endPolicy_31 hQ
def f_X12_endPolicy_28  (s0 : Int32) (v : gV) : Int32 × gV := f_X12_endPolicy_31  ((f_X12_commit s0 v).1) (f_X12_commit s0 v).2
def p_X12_endPolicy_28  (s0 : Int32) (v : gV) : Prop := (p_X12_commit s0 v) ∧ (p_X12_endPolicy_31   ((f_X12_commit s0 v).1) (f_X12_commit s0 v).2)
set_option maxHeartbeats 4000000 in
set_option maxRecDepth 100000 in
theorem w_X12_endPolicy_28 {E : gE} {d : Nat} {Q : gO → gS → Prop}   (hd : 3 ≤ d) (s0 : Int32) (v : gV) (hp : p_X12_endPolicy_28   s0 v) (hQ : gqIV Q (f_X12_endPolicy_28  s0 v)) : gG E m_X12_endPolicy d Q 0 0 (rS v) 28 [] [.int s0, .ref (gX E + 559)] := by
  obtain ⟨h5, hp⟩ := hp
  refine g_callV (rest := []) s_X12_101_X12 rfl (c_X12_commit (E := E) (d := d - 1)   (by omega) s0 v h5) (by decide : kd 559 = (0, 9)) (show 559 < 572 by decide) rfl rfl (Nat.le_of_ble_eq_true rfl) (by omega) (by decide) (by decide) dX12_endPolicy_28 (adV ?_) axN
  exact w_X12_endPolicy_31  hd    ((f_X12_commit s0 v).1) (f_X12_commit s0 v).2 hp hQ
def f_X12_endPolicy_19  (s0 : Int32) (v : gV) : Int32 × gV := f_X12_endPolicy_31  s0 v
def p_X12_endPolicy_19  (s0 : Int32) (v : gV) : Prop := p_X12_endPolicy_31   s0 v
set_option maxHeartbeats 4000000 in
set_option maxRecDepth 100000 in
theorem w_X12_endPolicy_19 {E : gE} {d : Nat} {Q : gO → gS → Prop}   (hd : 3 ≤ d) (s0 : Int32) (v : gV) (hp : p_X12_endPolicy_19   s0 v) (hQ : gqIV Q (f_X12_endPolicy_19  s0 v)) : gG E m_X12_endPolicy d Q 0 0 (rS v) 19 [] [.int s0] := by
  refine g_goto 31 dX12_endPolicy_19 (by decide) ?_
  exact w_X12_endPolicy_31  hd    s0 v hp hQ
def f_X12_endPolicy_4  (x1 : Int32) (v : gV) : Int32 × gV := if (f_X12_cannotEnd x1 v) ≤ 0 then (f_X12_endPolicy_28  ((f_X12_ends x1 v).1) (f_X12_ends x1 v).2) else (f_X12_endPolicy_19  ((f_X12_fail (f_X12_cannotEnd x1 v) v).1) (f_X12_fail (f_X12_cannotEnd x1 v) v).2)
def p_X12_endPolicy_4  (x1 : Int32) (v : gV) : Prop := (p_X12_cannotEnd x1 v) ∧ ((((f_X12_cannotEnd x1 v) ≤ 0) → ((p_X12_ends x1 v) ∧ (p_X12_endPolicy_28   ((f_X12_ends x1 v).1) (f_X12_ends x1 v).2))) ∧ (¬ ((f_X12_cannotEnd x1 v) ≤ 0) → ((p_X12_fail (f_X12_cannotEnd x1 v) v) ∧ (p_X12_endPolicy_19   ((f_X12_fail (f_X12_cannotEnd x1 v) v).1) (f_X12_fail (f_X12_cannotEnd x1 v) v).2))))
set_option maxHeartbeats 4000000 in
set_option maxRecDepth 100000 in
theorem w_X12_endPolicy_4 {E : gE} {d : Nat} {Q : gO → gS → Prop}   (hd : 3 ≤ d) (x1 : Int32) (v : gV) (hp : p_X12_endPolicy_4   x1 v) (hQ : gqIV Q (f_X12_endPolicy_4  x1 v)) : gG E m_X12_endPolicy d Q 0 0 (rS v) 4 [(0, .ref (gX E + 559)), (1, .int x1)] [] := by
  refine g_aload_n 0 dX12_endPolicy_4 rfl ?_
  refine g_iload_n 1 dX12_endPolicy_5 rfl ?_
  obtain ⟨h2, hp⟩ := hp
  refine g_callV (rest := []) s_X12_121_X12 rfl (c_X12_cannotEnd (E := E) (d := d - 1)   (by omega) x1 v h2) (by decide : kd 559 = (0, 9)) (show 559 < 572 by decide) rfl rfl (Nat.le_of_ble_eq_true rfl) (by omega) (by decide) (by decide) dX12_endPolicy_6 (adV ?_) axN
  refine g_istore_n [(2, .int ((f_X12_cannotEnd x1 v))), (0, .ref (gX E + 559)), (1, .int x1)] dX12_endPolicy_9 rfl (by decide) rfl ?_
  refine g_iload_n 0 dX12_endPolicy_10 rfl ?_
  refine g_if_le 22 dX12_endPolicy_11 (by decide) (fun h3 => ?_) (fun h3 => ?_)
  · have hQ := qp (P := gqIV Q) h3 hQ
    have hp := hp.1 h3
    refine g_aload_n 1 dX12_endPolicy_22 rfl ?_
    refine g_aload_n 1 dX12_endPolicy_23 rfl ?_
    refine g_iload_n 2 dX12_endPolicy_24 rfl ?_
    obtain ⟨h4, hp⟩ := hp
    refine g_callV (rest := [.ref (gX E + 559)]) s_X12_124_X12 rfl (c_X12_ends (E := E) (d := d - 1)   (by omega) x1 v h4) (by decide : kd 559 = (0, 9)) (show 559 < 572 by decide) rfl rfl (Nat.le_of_ble_eq_true rfl) (by omega) (by decide) (by decide) dX12_endPolicy_25 (adV ?_) axN
    refine g_lv (lv' := []) [] rfl ?_
    exact w_X12_endPolicy_28  hd    ((f_X12_ends x1 v).1) (f_X12_ends x1 v).2 hp hQ
  · have hQ := qn (P := gqIV Q) h3 hQ
    have hp := hp.2 h3
    refine g_aload_n 1 dX12_endPolicy_14 rfl ?_
    refine g_iload_n 0 dX12_endPolicy_15 rfl ?_
    obtain ⟨h6, hp⟩ := hp
    refine g_callV (rest := []) s_X12_94_X12 rfl (c_X12_fail (E := E) (d := d - 1)   (by omega) (f_X12_cannotEnd x1 v) v h6) (by decide : kd 559 = (0, 9)) (show 559 < 572 by decide) rfl rfl (Nat.le_of_ble_eq_true rfl) (by omega) (by decide) (by decide) dX12_endPolicy_16 (adV ?_) axN
    refine g_lv (lv' := []) [] rfl ?_
    exact w_X12_endPolicy_19  hd    ((f_X12_fail (f_X12_cannotEnd x1 v) v).1) (f_X12_fail (f_X12_cannotEnd x1 v) v).2 hp hQ
def f_X12_endPolicy_0  (x1 : Int32) (v : gV) : Int32 × gV := f_X12_endPolicy_4  x1 (f_X12_begin  v)
def p_X12_endPolicy_0  (x1 : Int32) (v : gV) : Prop := (p_X12_begin  v) ∧ (p_X12_endPolicy_4   x1 (f_X12_begin  v))
set_option maxHeartbeats 4000000 in
set_option maxRecDepth 100000 in
theorem w_X12_endPolicy_0 {E : gE} {d : Nat} {Q : gO → gS → Prop}   (hd : 3 ≤ d) (x1 : Int32) (v : gV) (hp : p_X12_endPolicy_0   x1 v) (hQ : gqIV Q (f_X12_endPolicy_0  x1 v)) : gG E m_X12_endPolicy d Q 0 0 (rS v) 0 [(0, .ref (gX E + 559)), (1, .int x1)] [] := by
  refine g_aload_n 0 dX12_endPolicy_0 rfl ?_
  obtain ⟨h1, hp⟩ := hp
  refine g_callV (rest := []) s_X12_87_X12 rfl (c_X12_begin (E := E) (d := d - 1)   (by omega)  v h1) (by decide : kd 559 = (0, 9)) (show 559 < 572 by decide) rfl rfl (Nat.le_of_ble_eq_true rfl) (by omega) (by decide) (by decide) dX12_endPolicy_1 (adN ?_) axN
  exact w_X12_endPolicy_4  hd    x1 (f_X12_begin  v) hp hQ
def f_X12_endPolicy  (x1 : Int32) (v : gV) : Int32 × gV := f_X12_endPolicy_0 x1 v
def p_X12_endPolicy  (x1 : Int32) (v : gV) : Prop := p_X12_endPolicy_0 x1 v
theorem c_X12_endPolicy {E : gE} {d : Nat}   (hd : 3 ≤ d) (x1 : Int32) (v : gV) (hp : p_X12_endPolicy x1 v) : CT E m_X12_endPolicy d 0 0 [.ref (gX E + 559), .int x1] (rS v) (Cq (.inl (some (.int ((f_X12_endPolicy x1 v).1)))) (f_X12_endPolicy x1 v).2) := CT.of ok_X12_endPolicy rfl (Nat.le_of_ble_eq_true rfl) (w_X12_endPolicy_0  hd x1 v hp ⟨rfl, rfl⟩)
def f_X12_cannotVoid_12  : Nat → Int32 → Int32 → gV → Int32
  | 0, _, _, v => 0
  | n + 1, x1, x2, v => if (v.1 560 (1 : Int32).toNatClampNeg) ≤ x2 then ((0 : Int32)) else (if (f_X12_c x2 ((6 : Int32) + x1) v) ≤ 0 then (f_X12_cannotVoid_12  n x1 (x2 + 1) v) else ((2 : Int32)))
def p_X12_cannotVoid_12  : Nat → Int32 → Int32 → gV → Prop
  | 0, _, _, _ => False
  | n + 1, x1, x2, v => (((v.1 560 (1 : Int32).toNatClampNeg) ≤ x2) → (True)) ∧ (¬ ((v.1 560 (1 : Int32).toNatClampNeg) ≤ x2) → ((p_X12_c x2 ((6 : Int32) + x1) v) ∧ ((((f_X12_c x2 ((6 : Int32) + x1) v) ≤ 0) → (p_X12_cannotVoid_12   n x1 (x2 + 1) v)) ∧ (¬ ((f_X12_c x2 ((6 : Int32) + x1) v) ≤ 0) → (True)))))
set_option maxHeartbeats 4000000 in
set_option maxRecDepth 100000 in
theorem w_X12_cannotVoid_12 {E : gE} {d : Nat} {Q : gO → gS → Prop}   (hd : 2 ≤ d) : ∀ (n : Nat) (x1 : Int32) (x2 : Int32) (v : gV), p_X12_cannotVoid_12   n x1 x2 v → gqI Q v (f_X12_cannotVoid_12  n x1 x2 v) → gG E m_X12_cannotVoid d Q 0 0 (rS v) 12 [(0, .ref (gX E + 559)), (1, .int x1), (2, .int x2)] [] := by
  intro n
  induction n with
  | zero => intro x1 x2 v hp; exact hp.elim
  | succ n ih =>
    intro x1 x2 v hp hQ
    refine g_iload_n 2 dX12_cannotVoid_12 rfl ?_
    refine g_aload_n 0 dX12_cannotVoid_13 rfl ?_
    refine r_get (.ref (gX E + 560)) f_X12_7_X12 rfl (by decide : kd 559 = (0, 9)) (show 559 < 572 by decide) dX12_cannotVoid_14 (fun _ => rfl) ?_
    refine g_iconst dX12_cannotVoid_17 (1 : Int32) (by decide) ?_
    refine g_iald (by decide : kd 560 = (1, 300)) (show 560 < 572 by decide) (show ¬ (_ ∨ _) by decide) dX12_cannotVoid_18 ?_
    refine g_icmp_ge 42 dX12_cannotVoid_19 (by decide) (fun h3 => ?_) (fun h3 => ?_)
    · have hQ := qp (P := gqI Q v) h3 hQ
      have hp := hp.1 h3
      refine g_iconst dX12_cannotVoid_42 (0 : Int32) (by decide) ?_
      exact g_iret rfl dX12_cannotVoid_43 hQ
    · have hQ := qn (P := gqI Q v) h3 hQ
      have hp := hp.2 h3
      refine g_aload_n 0 dX12_cannotVoid_22 rfl ?_
      refine g_iload_n 2 dX12_cannotVoid_23 rfl ?_
      refine g_bipush dX12_cannotVoid_24 (6 : Int32) (by decide) ?_
      refine g_iload_n 1 dX12_cannotVoid_26 rfl ?_
      refine g_iadd dX12_cannotVoid_27 ?_
      obtain ⟨h4, hp⟩ := hp
      refine g_callV (rest := []) s_X12_104_X12 rfl (c_X12_c (E := E) (d := d - 1)   (by omega) x2 ((6 : Int32) + x1) v h4) (by decide : kd 559 = (0, 9)) (show 559 < 572 by decide) rfl rfl (Nat.le_of_ble_eq_true rfl) (by omega) (by decide) (by decide) dX12_cannotVoid_28 (adV ?_) axN
      refine g_if_le 36 dX12_cannotVoid_31 (by decide) (fun h5 => ?_) (fun h5 => ?_)
      · have hQ := qp (P := gqI Q v) h5 hQ
        have hp := hp.1 h5
        refine g_iinc 2 (x2 + 1) [(2, .int (x2 + 1)), (0, .ref (gX E + 559)), (1, .int x1)] dX12_cannotVoid_36 rfl rfl (by decide) rfl ?_
        refine g_goto 12 dX12_cannotVoid_39 (by decide) ?_
        refine g_lv (lv' := [(0, .ref (gX E + 559)), (1, .int x1), (2, .int (x2 + 1))]) [1, 2, 0] rfl ?_
        exact ih x1 (x2 + 1) v hp hQ
      · have hQ := qn (P := gqI Q v) h5 hQ
        have hp := hp.2 h5
        refine g_iconst dX12_cannotVoid_34 (2 : Int32) (by decide) ?_
        exact g_iret rfl dX12_cannotVoid_35 hQ
def f_X12_cannotVoid_0  (x1 : Int32) (v : gV) : Int32 := if (f_X12_isTreaty x1 v) = 0 then ((1 : Int32)) else (f_X12_cannotVoid_12  5000 x1 (0 : Int32) v)
def p_X12_cannotVoid_0  (x1 : Int32) (v : gV) : Prop := (p_X12_isTreaty x1 v) ∧ ((((f_X12_isTreaty x1 v) = 0) → (True)) ∧ (¬ ((f_X12_isTreaty x1 v) = 0) → (p_X12_cannotVoid_12   5000 x1 (0 : Int32) v)))
set_option maxHeartbeats 4000000 in
set_option maxRecDepth 100000 in
theorem w_X12_cannotVoid_0 {E : gE} {d : Nat} {Q : gO → gS → Prop}   (hd : 2 ≤ d) (x1 : Int32) (v : gV) (hp : p_X12_cannotVoid_0   x1 v) (hQ : gqI Q v (f_X12_cannotVoid_0  x1 v)) : gG E m_X12_cannotVoid d Q 0 0 (rS v) 0 [(0, .ref (gX E + 559)), (1, .int x1)] [] := by
  refine g_aload_n 0 dX12_cannotVoid_0 rfl ?_
  refine g_iload_n 1 dX12_cannotVoid_1 rfl ?_
  obtain ⟨h1, hp⟩ := hp
  refine g_callV (rest := []) s_X12_134_X12 rfl (c_X12_isTreaty (E := E) (d := d - 1)   (by omega) x1 v h1) (by decide : kd 559 = (0, 9)) (show 559 < 572 by decide) rfl rfl (Nat.le_of_ble_eq_true rfl) (by omega) (by decide) (by decide) dX12_cannotVoid_2 (adV ?_) axN
  refine g_if_ne 10 dX12_cannotVoid_5 (by decide) (fun h2 => ?_) (fun h2 => ?_)
  · have hQ := qn (P := gqI Q v) h2 hQ
    have hp := hp.2 h2
    refine g_iconst dX12_cannotVoid_10 (0 : Int32) (by decide) ?_
    refine g_istore_n [(2, .int ((0 : Int32))), (0, .ref (gX E + 559)), (1, .int x1)] dX12_cannotVoid_11 rfl (by decide) rfl ?_
    refine g_lv (lv' := [(0, .ref (gX E + 559)), (1, .int x1), (2, .int ((0 : Int32)))]) [1, 2, 0] rfl ?_
    exact w_X12_cannotVoid_12  hd    5000 x1 (0 : Int32) v hp hQ
  · have hQ := qp (P := gqI Q v) h2 hQ
    have hp := hp.1 h2
    refine g_iconst dX12_cannotVoid_8 (1 : Int32) (by decide) ?_
    exact g_iret rfl dX12_cannotVoid_9 hQ
def f_X12_cannotVoid  (x1 : Int32) (v : gV) : Int32 := f_X12_cannotVoid_0 x1 v
def p_X12_cannotVoid  (x1 : Int32) (v : gV) : Prop := p_X12_cannotVoid_0 x1 v
theorem c_X12_cannotVoid {E : gE} {d : Nat}   (hd : 2 ≤ d) (x1 : Int32) (v : gV) (hp : p_X12_cannotVoid x1 v) : CT E m_X12_cannotVoid d 0 0 [.ref (gX E + 559), .int x1] (rS v) (Cq (.inl (some (.int (f_X12_cannotVoid x1 v)))) v) := CT.of ok_X12_cannotVoid rfl (Nat.le_of_ble_eq_true rfl) (w_X12_cannotVoid_0  hd x1 v hp ⟨rfl, rfl⟩)
def f_X12_dropTreaty_31  (s0 : Int32) (v : gV) : Int32 × gV := (s0, v)
def p_X12_dropTreaty_31  (s0 : Int32) (v : gV) : Prop := True
set_option maxHeartbeats 4000000 in
set_option maxRecDepth 100000 in
theorem w_X12_dropTreaty_31 {E : gE} {d : Nat} {Q : gO → gS → Prop}   (hd : 3 ≤ d) (s0 : Int32) (v : gV) (hp : p_X12_dropTreaty_31   s0 v) (hQ : gqIV Q (f_X12_dropTreaty_31  s0 v)) : gG E m_X12_dropTreaty d Q 0 0 (rS v) 31 [] [.int s0] := by
  exact g_iret rfl dX12_dropTreaty_31 hQ
def f_X12_dropTreaty_28  (s0 : Int32) (v : gV) : Int32 × gV := f_X12_dropTreaty_31  ((f_X12_commit s0 v).1) (f_X12_commit s0 v).2
def p_X12_dropTreaty_28  (s0 : Int32) (v : gV) : Prop := (p_X12_commit s0 v) ∧ (p_X12_dropTreaty_31   ((f_X12_commit s0 v).1) (f_X12_commit s0 v).2)
set_option maxHeartbeats 4000000 in
set_option maxRecDepth 100000 in
theorem w_X12_dropTreaty_28 {E : gE} {d : Nat} {Q : gO → gS → Prop}   (hd : 3 ≤ d) (s0 : Int32) (v : gV) (hp : p_X12_dropTreaty_28   s0 v) (hQ : gqIV Q (f_X12_dropTreaty_28  s0 v)) : gG E m_X12_dropTreaty d Q 0 0 (rS v) 28 [] [.int s0, .ref (gX E + 559)] := by
  obtain ⟨h5, hp⟩ := hp
  refine g_callV (rest := []) s_X12_101_X12 rfl (c_X12_commit (E := E) (d := d - 1)   (by omega) s0 v h5) (by decide : kd 559 = (0, 9)) (show 559 < 572 by decide) rfl rfl (Nat.le_of_ble_eq_true rfl) (by omega) (by decide) (by decide) dX12_dropTreaty_28 (adV ?_) axN
  exact w_X12_dropTreaty_31  hd    ((f_X12_commit s0 v).1) (f_X12_commit s0 v).2 hp hQ
def f_X12_dropTreaty_19  (s0 : Int32) (v : gV) : Int32 × gV := f_X12_dropTreaty_31  s0 v
def p_X12_dropTreaty_19  (s0 : Int32) (v : gV) : Prop := p_X12_dropTreaty_31   s0 v
set_option maxHeartbeats 4000000 in
set_option maxRecDepth 100000 in
theorem w_X12_dropTreaty_19 {E : gE} {d : Nat} {Q : gO → gS → Prop}   (hd : 3 ≤ d) (s0 : Int32) (v : gV) (hp : p_X12_dropTreaty_19   s0 v) (hQ : gqIV Q (f_X12_dropTreaty_19  s0 v)) : gG E m_X12_dropTreaty d Q 0 0 (rS v) 19 [] [.int s0] := by
  refine g_goto 31 dX12_dropTreaty_19 (by decide) ?_
  exact w_X12_dropTreaty_31  hd    s0 v hp hQ
def f_X12_dropTreaty_4  (x1 : Int32) (v : gV) : Int32 × gV := if (f_X12_cannotVoid x1 v) ≤ 0 then (f_X12_dropTreaty_28  ((f_X12_voids x1 v).1) (f_X12_voids x1 v).2) else (f_X12_dropTreaty_19  ((f_X12_fail (f_X12_cannotVoid x1 v) v).1) (f_X12_fail (f_X12_cannotVoid x1 v) v).2)
def p_X12_dropTreaty_4  (x1 : Int32) (v : gV) : Prop := (p_X12_cannotVoid x1 v) ∧ ((((f_X12_cannotVoid x1 v) ≤ 0) → ((p_X12_voids x1 v) ∧ (p_X12_dropTreaty_28   ((f_X12_voids x1 v).1) (f_X12_voids x1 v).2))) ∧ (¬ ((f_X12_cannotVoid x1 v) ≤ 0) → ((p_X12_fail (f_X12_cannotVoid x1 v) v) ∧ (p_X12_dropTreaty_19   ((f_X12_fail (f_X12_cannotVoid x1 v) v).1) (f_X12_fail (f_X12_cannotVoid x1 v) v).2))))
set_option maxHeartbeats 4000000 in
set_option maxRecDepth 100000 in
theorem w_X12_dropTreaty_4 {E : gE} {d : Nat} {Q : gO → gS → Prop}   (hd : 3 ≤ d) (x1 : Int32) (v : gV) (hp : p_X12_dropTreaty_4   x1 v) (hQ : gqIV Q (f_X12_dropTreaty_4  x1 v)) : gG E m_X12_dropTreaty d Q 0 0 (rS v) 4 [(0, .ref (gX E + 559)), (1, .int x1)] [] := by
  refine g_aload_n 0 dX12_dropTreaty_4 rfl ?_
  refine g_iload_n 1 dX12_dropTreaty_5 rfl ?_
  obtain ⟨h2, hp⟩ := hp
  refine g_callV (rest := []) s_X12_140_X12 rfl (c_X12_cannotVoid (E := E) (d := d - 1)   (by omega) x1 v h2) (by decide : kd 559 = (0, 9)) (show 559 < 572 by decide) rfl rfl (Nat.le_of_ble_eq_true rfl) (by omega) (by decide) (by decide) dX12_dropTreaty_6 (adV ?_) axN
  refine g_istore_n [(2, .int ((f_X12_cannotVoid x1 v))), (0, .ref (gX E + 559)), (1, .int x1)] dX12_dropTreaty_9 rfl (by decide) rfl ?_
  refine g_iload_n 0 dX12_dropTreaty_10 rfl ?_
  refine g_if_le 22 dX12_dropTreaty_11 (by decide) (fun h3 => ?_) (fun h3 => ?_)
  · have hQ := qp (P := gqIV Q) h3 hQ
    have hp := hp.1 h3
    refine g_aload_n 1 dX12_dropTreaty_22 rfl ?_
    refine g_aload_n 1 dX12_dropTreaty_23 rfl ?_
    refine g_iload_n 2 dX12_dropTreaty_24 rfl ?_
    obtain ⟨h4, hp⟩ := hp
    refine g_callV (rest := [.ref (gX E + 559)]) s_X12_143_X12 rfl (c_X12_voids (E := E) (d := d - 1)   (by omega) x1 v h4) (by decide : kd 559 = (0, 9)) (show 559 < 572 by decide) rfl rfl (Nat.le_of_ble_eq_true rfl) (by omega) (by decide) (by decide) dX12_dropTreaty_25 (adV ?_) axN
    refine g_lv (lv' := []) [] rfl ?_
    exact w_X12_dropTreaty_28  hd    ((f_X12_voids x1 v).1) (f_X12_voids x1 v).2 hp hQ
  · have hQ := qn (P := gqIV Q) h3 hQ
    have hp := hp.2 h3
    refine g_aload_n 1 dX12_dropTreaty_14 rfl ?_
    refine g_iload_n 0 dX12_dropTreaty_15 rfl ?_
    obtain ⟨h6, hp⟩ := hp
    refine g_callV (rest := []) s_X12_94_X12 rfl (c_X12_fail (E := E) (d := d - 1)   (by omega) (f_X12_cannotVoid x1 v) v h6) (by decide : kd 559 = (0, 9)) (show 559 < 572 by decide) rfl rfl (Nat.le_of_ble_eq_true rfl) (by omega) (by decide) (by decide) dX12_dropTreaty_16 (adV ?_) axN
    refine g_lv (lv' := []) [] rfl ?_
    exact w_X12_dropTreaty_19  hd    ((f_X12_fail (f_X12_cannotVoid x1 v) v).1) (f_X12_fail (f_X12_cannotVoid x1 v) v).2 hp hQ
def f_X12_dropTreaty_0  (x1 : Int32) (v : gV) : Int32 × gV := f_X12_dropTreaty_4  x1 (f_X12_begin  v)
def p_X12_dropTreaty_0  (x1 : Int32) (v : gV) : Prop := (p_X12_begin  v) ∧ (p_X12_dropTreaty_4   x1 (f_X12_begin  v))
set_option maxHeartbeats 4000000 in
set_option maxRecDepth 100000 in
theorem w_X12_dropTreaty_0 {E : gE} {d : Nat} {Q : gO → gS → Prop}   (hd : 3 ≤ d) (x1 : Int32) (v : gV) (hp : p_X12_dropTreaty_0   x1 v) (hQ : gqIV Q (f_X12_dropTreaty_0  x1 v)) : gG E m_X12_dropTreaty d Q 0 0 (rS v) 0 [(0, .ref (gX E + 559)), (1, .int x1)] [] := by
  refine g_aload_n 0 dX12_dropTreaty_0 rfl ?_
  obtain ⟨h1, hp⟩ := hp
  refine g_callV (rest := []) s_X12_87_X12 rfl (c_X12_begin (E := E) (d := d - 1)   (by omega)  v h1) (by decide : kd 559 = (0, 9)) (show 559 < 572 by decide) rfl rfl (Nat.le_of_ble_eq_true rfl) (by omega) (by decide) (by decide) dX12_dropTreaty_1 (adN ?_) axN
  exact w_X12_dropTreaty_4  hd    x1 (f_X12_begin  v) hp hQ
def f_X12_dropTreaty  (x1 : Int32) (v : gV) : Int32 × gV := f_X12_dropTreaty_0 x1 v
def p_X12_dropTreaty  (x1 : Int32) (v : gV) : Prop := p_X12_dropTreaty_0 x1 v
theorem c_X12_dropTreaty {E : gE} {d : Nat}   (hd : 3 ≤ d) (x1 : Int32) (v : gV) (hp : p_X12_dropTreaty x1 v) : CT E m_X12_dropTreaty d 0 0 [.ref (gX E + 559), .int x1] (rS v) (Cq (.inl (some (.int ((f_X12_dropTreaty x1 v).1)))) (f_X12_dropTreaty x1 v).2) := CT.of ok_X12_dropTreaty rfl (Nat.le_of_ble_eq_true rfl) (w_X12_dropTreaty_0  hd x1 v hp ⟨rfl, rfl⟩)
def f_X12_why_136  (s0 : Int32) (v : gV) : Int32 := s0
def p_X12_why_136  (s0 : Int32) (v : gV) : Prop := True
set_option maxHeartbeats 4000000 in
set_option maxRecDepth 100000 in
theorem w_X12_why_136 {E : gE} {d : Nat} {Q : gO → gS → Prop}   (hd : 3 ≤ d) (s0 : Int32) (v : gV) (hp : p_X12_why_136   s0 v) (hQ : gqI Q v (f_X12_why_136  s0 v)) : gG E m_X12_why d Q 0 0 (rS v) 136 [] [.int s0] := by
  exact g_iret rfl dX12_why_136 hQ
def f_X12_why_0  (x1 : Int32) (x2 : Int32) (x3 : Int32) (x4 : Int32) (x5 : Int32) (v : gV) : Int32 := if x1 = 0 then ((f_X12_cannotInsure x2 x3 x4 v)) else (if x1 = 1 then ((f_X12_cannotEnd x2 v)) else (if x1 = 2 then ((f_X12_cannotTreat x2 x3 x4 x5 v)) else (if x1 = 3 then ((f_X12_cannotVoid x2 v)) else (if x1 = 4 then ((f_X12_cannotClaim x2 x3 x4 v)) else (if x1 = 5 then ((f_X12_cannotPay x2 x3 v)) else (if x1 = 6 then ((f_X12_cannotClose x2 v)) else (if x1 = 7 then ((f_X12_cannotWaive x2 v)) else (if x1 = 8 then ((f_X12_cannotOffer x2 x3 x4 v)) else (if (f_X12_in x2 (1 : Int32) (60 : Int32) v) = 0 then (f_X12_why_136  (1 : Int32) v) else (f_X12_why_136  (0 : Int32) v))))))))))
def p_X12_why_0  (x1 : Int32) (x2 : Int32) (x3 : Int32) (x4 : Int32) (x5 : Int32) (v : gV) : Prop := ((x1 = 0) → ((p_X12_cannotInsure x2 x3 x4 v) ∧ (True))) ∧ (¬ (x1 = 0) → (((x1 = 1) → ((p_X12_cannotEnd x2 v) ∧ (True))) ∧ (¬ (x1 = 1) → (((x1 = 2) → ((p_X12_cannotTreat x2 x3 x4 x5 v) ∧ (True))) ∧ (¬ (x1 = 2) → (((x1 = 3) → ((p_X12_cannotVoid x2 v) ∧ (True))) ∧ (¬ (x1 = 3) → (((x1 = 4) → ((p_X12_cannotClaim x2 x3 x4 v) ∧ (True))) ∧ (¬ (x1 = 4) → (((x1 = 5) → ((p_X12_cannotPay x2 x3 v) ∧ (True))) ∧ (¬ (x1 = 5) → (((x1 = 6) → ((p_X12_cannotClose x2 v) ∧ (True))) ∧ (¬ (x1 = 6) → (((x1 = 7) → ((p_X12_cannotWaive x2 v) ∧ (True))) ∧ (¬ (x1 = 7) → (((x1 = 8) → ((p_X12_cannotOffer x2 x3 x4 v) ∧ (True))) ∧ (¬ (x1 = 8) → ((p_X12_in x2 (1 : Int32) (60 : Int32) v) ∧ ((((f_X12_in x2 (1 : Int32) (60 : Int32) v) = 0) → (p_X12_why_136   (1 : Int32) v)) ∧ (¬ ((f_X12_in x2 (1 : Int32) (60 : Int32) v) = 0) → (p_X12_why_136   (0 : Int32) v)))))))))))))))))))))
set_option maxHeartbeats 4000000 in
set_option maxRecDepth 100000 in
theorem w_X12_why_0 {E : gE} {d : Nat} {Q : gO → gS → Prop}   (hd : 3 ≤ d) (x1 : Int32) (x2 : Int32) (x3 : Int32) (x4 : Int32) (x5 : Int32) (v : gV) (hp : p_X12_why_0   x1 x2 x3 x4 x5 v) (hQ : gqI Q v (f_X12_why_0  x1 x2 x3 x4 x5 v)) : gG E m_X12_why d Q 0 0 (rS v) 0 [(0, .ref (gX E + 559)), (1, .int x1), (2, .int x2), (3, .int x3), (4, .int x4), (5, .int x5)] [] := by
  refine g_iload_n 1 dX12_why_0 rfl ?_
  by_cases h1 : x1 = 0
  · have hQ := qp (P := gqI Q v) h1 hQ
    have hp := hp.1 h1
    refine g_tableIn 52 dX12_why_1 (by rw [h1]; decide) (by rw [h1]; decide) (by rw [h1]; rfl) (by decide) ?_
    refine g_aload_n 0 dX12_why_52 rfl ?_
    refine g_iload_n 2 dX12_why_53 rfl ?_
    refine g_iload_n 3 dX12_why_54 rfl ?_
    refine g_iload 4 dX12_why_55 rfl ?_
    obtain ⟨h2, hp⟩ := hp
    refine g_callV (rest := []) s_X12_90_X12 rfl (c_X12_cannotInsure (E := E) (d := d - 1)   (by omega) x2 x3 x4 v h2) (by decide : kd 559 = (0, 9)) (show 559 < 572 by decide) rfl rfl (Nat.le_of_ble_eq_true rfl) (by omega) (by decide) (by decide) dX12_why_57 (adV ?_) axN
    exact g_iret rfl dX12_why_60 hQ
  have hQ := qn (P := gqI Q v) h1 hQ
  have hp := hp.2 h1
  by_cases h3 : x1 = 1
  · have hQ := qp (P := gqI Q v) h3 hQ
    have hp := hp.1 h3
    refine g_tableIn 61 dX12_why_1 (by rw [h3]; decide) (by rw [h3]; decide) (by rw [h3]; rfl) (by decide) ?_
    refine g_aload_n 0 dX12_why_61 rfl ?_
    refine g_iload_n 2 dX12_why_62 rfl ?_
    obtain ⟨h4, hp⟩ := hp
    refine g_callV (rest := []) s_X12_121_X12 rfl (c_X12_cannotEnd (E := E) (d := d - 1)   (by omega) x2 v h4) (by decide : kd 559 = (0, 9)) (show 559 < 572 by decide) rfl rfl (Nat.le_of_ble_eq_true rfl) (by omega) (by decide) (by decide) dX12_why_63 (adV ?_) axN
    exact g_iret rfl dX12_why_66 hQ
  have hQ := qn (P := gqI Q v) h3 hQ
  have hp := hp.2 h3
  by_cases h5 : x1 = 2
  · have hQ := qp (P := gqI Q v) h5 hQ
    have hp := hp.1 h5
    refine g_tableIn 67 dX12_why_1 (by rw [h5]; decide) (by rw [h5]; decide) (by rw [h5]; rfl) (by decide) ?_
    refine g_aload_n 0 dX12_why_67 rfl ?_
    refine g_iload_n 2 dX12_why_68 rfl ?_
    refine g_iload_n 3 dX12_why_69 rfl ?_
    refine g_iload 4 dX12_why_70 rfl ?_
    refine g_iload 5 dX12_why_72 rfl ?_
    obtain ⟨h6, hp⟩ := hp
    refine g_callV (rest := []) s_X12_127_X12 rfl (c_X12_cannotTreat (E := E) (d := d - 1)   (by omega) x2 x3 x4 x5 v h6) (by decide : kd 559 = (0, 9)) (show 559 < 572 by decide) rfl rfl (Nat.le_of_ble_eq_true rfl) (by omega) (by decide) (by decide) dX12_why_74 (adV ?_) axN
    exact g_iret rfl dX12_why_77 hQ
  have hQ := qn (P := gqI Q v) h5 hQ
  have hp := hp.2 h5
  by_cases h7 : x1 = 3
  · have hQ := qp (P := gqI Q v) h7 hQ
    have hp := hp.1 h7
    refine g_tableIn 78 dX12_why_1 (by rw [h7]; decide) (by rw [h7]; decide) (by rw [h7]; rfl) (by decide) ?_
    refine g_aload_n 0 dX12_why_78 rfl ?_
    refine g_iload_n 2 dX12_why_79 rfl ?_
    obtain ⟨h8, hp⟩ := hp
    refine g_callV (rest := []) s_X12_140_X12 rfl (c_X12_cannotVoid (E := E) (d := d - 1)   (by omega) x2 v h8) (by decide : kd 559 = (0, 9)) (show 559 < 572 by decide) rfl rfl (Nat.le_of_ble_eq_true rfl) (by omega) (by decide) (by decide) dX12_why_80 (adV ?_) axN
    exact g_iret rfl dX12_why_83 hQ
  have hQ := qn (P := gqI Q v) h7 hQ
  have hp := hp.2 h7
  by_cases h9 : x1 = 4
  · have hQ := qp (P := gqI Q v) h9 hQ
    have hp := hp.1 h9
    refine g_tableIn 84 dX12_why_1 (by rw [h9]; decide) (by rw [h9]; decide) (by rw [h9]; rfl) (by decide) ?_
    refine g_aload_n 0 dX12_why_84 rfl ?_
    refine g_iload_n 2 dX12_why_85 rfl ?_
    refine g_iload_n 3 dX12_why_86 rfl ?_
    refine g_iload 4 dX12_why_87 rfl ?_
    obtain ⟨h10, hp⟩ := hp
    refine g_callV (rest := []) s_X12_161_X12 rfl (c_X12_cannotClaim (E := E) (d := d - 1)   (by omega) x2 x3 x4 v h10) (by decide : kd 559 = (0, 9)) (show 559 < 572 by decide) rfl rfl (Nat.le_of_ble_eq_true rfl) (by omega) (by decide) (by decide) dX12_why_89 (adV ?_) axN
    exact g_iret rfl dX12_why_92 hQ
  have hQ := qn (P := gqI Q v) h9 hQ
  have hp := hp.2 h9
  by_cases h11 : x1 = 5
  · have hQ := qp (P := gqI Q v) h11 hQ
    have hp := hp.1 h11
    refine g_tableIn 93 dX12_why_1 (by rw [h11]; decide) (by rw [h11]; decide) (by rw [h11]; rfl) (by decide) ?_
    refine g_aload_n 0 dX12_why_93 rfl ?_
    refine g_iload_n 2 dX12_why_94 rfl ?_
    refine g_iload_n 3 dX12_why_95 rfl ?_
    obtain ⟨h12, hp⟩ := hp
    refine g_callV (rest := []) s_X12_173_X12 rfl (c_X12_cannotPay (E := E) (d := d - 1)   (by omega) x2 x3 v h12) (by decide : kd 559 = (0, 9)) (show 559 < 572 by decide) rfl rfl (Nat.le_of_ble_eq_true rfl) (by omega) (by decide) (by decide) dX12_why_96 (adV ?_) axN
    exact g_iret rfl dX12_why_99 hQ
  have hQ := qn (P := gqI Q v) h11 hQ
  have hp := hp.2 h11
  by_cases h13 : x1 = 6
  · have hQ := qp (P := gqI Q v) h13 hQ
    have hp := hp.1 h13
    refine g_tableIn 100 dX12_why_1 (by rw [h13]; decide) (by rw [h13]; decide) (by rw [h13]; rfl) (by decide) ?_
    refine g_aload_n 0 dX12_why_100 rfl ?_
    refine g_iload_n 2 dX12_why_101 rfl ?_
    obtain ⟨h14, hp⟩ := hp
    refine g_callV (rest := []) s_X12_179_X12 rfl (c_X12_cannotClose (E := E) (d := d - 1)   (by omega) x2 v h14) (by decide : kd 559 = (0, 9)) (show 559 < 572 by decide) rfl rfl (Nat.le_of_ble_eq_true rfl) (by omega) (by decide) (by decide) dX12_why_102 (adV ?_) axN
    exact g_iret rfl dX12_why_105 hQ
  have hQ := qn (P := gqI Q v) h13 hQ
  have hp := hp.2 h13
  by_cases h15 : x1 = 7
  · have hQ := qp (P := gqI Q v) h15 hQ
    have hp := hp.1 h15
    refine g_tableIn 106 dX12_why_1 (by rw [h15]; decide) (by rw [h15]; decide) (by rw [h15]; rfl) (by decide) ?_
    refine g_aload_n 0 dX12_why_106 rfl ?_
    refine g_iload_n 2 dX12_why_107 rfl ?_
    obtain ⟨h16, hp⟩ := hp
    refine g_callV (rest := []) s_X12_185_X12 rfl (c_X12_cannotWaive (E := E) (d := d - 1)   (by omega) x2 v h16) (by decide : kd 559 = (0, 9)) (show 559 < 572 by decide) rfl rfl (Nat.le_of_ble_eq_true rfl) (by omega) (by decide) (by decide) dX12_why_108 (adV ?_) axN
    exact g_iret rfl dX12_why_111 hQ
  have hQ := qn (P := gqI Q v) h15 hQ
  have hp := hp.2 h15
  by_cases h17 : x1 = 8
  · have hQ := qp (P := gqI Q v) h17 hQ
    have hp := hp.1 h17
    refine g_tableIn 112 dX12_why_1 (by rw [h17]; decide) (by rw [h17]; decide) (by rw [h17]; rfl) (by decide) ?_
    refine g_aload_n 0 dX12_why_112 rfl ?_
    refine g_iload_n 2 dX12_why_113 rfl ?_
    refine g_iload_n 3 dX12_why_114 rfl ?_
    refine g_iload 4 dX12_why_115 rfl ?_
    obtain ⟨h18, hp⟩ := hp
    refine g_callV (rest := []) s_X12_195_X12 rfl (c_X12_cannotOffer (E := E) (d := d - 1)   (by omega) x2 x3 x4 v h18) (by decide : kd 559 = (0, 9)) (show 559 < 572 by decide) rfl rfl (Nat.le_of_ble_eq_true rfl) (by omega) (by decide) (by decide) dX12_why_117 (adV ?_) axN
    exact g_iret rfl dX12_why_120 hQ
  have hQ := qn (P := gqI Q v) h17 hQ
  have hp := hp.2 h17
  refine g_tableOut 121 dX12_why_1 (gsw_out [0, 1, 2, 3, 4, 5, 6, 7, 8] x1 (by decide) ⟨h1, h3, h5, h7, h9, h11, h13, h15, h17, trivial⟩) (by decide) ?_
  refine g_iload_n 2 dX12_why_121 rfl ?_
  refine g_iconst dX12_why_122 (1 : Int32) (by decide) ?_
  refine g_bipush dX12_why_123 (60 : Int32) (by decide) ?_
  obtain ⟨h19, hp⟩ := hp
  refine g_callS (rest := []) s_X12_83 rfl (c_X12_in (E := E) (d := d - 1)   (by omega) x2 (1 : Int32) (60 : Int32) v h19) rfl rfl (Nat.le_of_ble_eq_true rfl) (by omega) (by decide) (by decide) dX12_why_125 (adV ?_) axN
  refine g_if_eq 135 dX12_why_128 (by decide) (fun h20 => ?_) (fun h20 => ?_)
  · have hQ := qp (P := gqI Q v) h20 hQ
    have hp := hp.1 h20
    refine g_iconst dX12_why_135 (1 : Int32) (by decide) ?_
    refine g_lv (lv' := []) [] rfl ?_
    exact w_X12_why_136  hd    (1 : Int32) v hp hQ
  · have hQ := qn (P := gqI Q v) h20 hQ
    have hp := hp.2 h20
    refine g_iconst dX12_why_131 (0 : Int32) (by decide) ?_
    refine g_goto 136 dX12_why_132 (by decide) ?_
    refine g_lv (lv' := []) [] rfl ?_
    exact w_X12_why_136  hd    (0 : Int32) v hp hQ
def f_X12_why  (x1 : Int32) (x2 : Int32) (x3 : Int32) (x4 : Int32) (x5 : Int32) (v : gV) : Int32 := f_X12_why_0 x1 x2 x3 x4 x5 v
def p_X12_why  (x1 : Int32) (x2 : Int32) (x3 : Int32) (x4 : Int32) (x5 : Int32) (v : gV) : Prop := p_X12_why_0 x1 x2 x3 x4 x5 v
theorem c_X12_why {E : gE} {d : Nat}   (hd : 3 ≤ d) (x1 : Int32) (x2 : Int32) (x3 : Int32) (x4 : Int32) (x5 : Int32) (v : gV) (hp : p_X12_why x1 x2 x3 x4 x5 v) : CT E m_X12_why d 0 0 [.ref (gX E + 559), .int x1, .int x2, .int x3, .int x4, .int x5] (rS v) (Cq (.inl (some (.int (f_X12_why x1 x2 x3 x4 x5 v)))) v) := CT.of ok_X12_why rfl (Nat.le_of_ble_eq_true rfl) (w_X12_why_0  hd x1 x2 x3 x4 x5 v hp ⟨rfl, rfl⟩)
def f_X12_runScript_170  (s0 : Int32) (v : gV) : Int32 × gV := (s0, v)
def p_X12_runScript_170  (s0 : Int32) (v : gV) : Prop := True
set_option maxHeartbeats 4000000 in
set_option maxRecDepth 100000 in
theorem w_X12_runScript_170 {E : gE} {d : Nat} {Q : gO → gS → Prop}   (hd : 6 ≤ d) (s0 : Int32) (v : gV) (hp : p_X12_runScript_170   s0 v) (hQ : gqIV Q (f_X12_runScript_170  s0 v)) : gG E m_X12_runScript d Q 0 0 (rS v) 170 [] [.int s0] := by
  exact g_iret rfl dX12_runScript_170 hQ
def f_X12_runScript_155  (s0 : Int32) (v : gV) : Int32 × gV := (s0, v)
def p_X12_runScript_155  (s0 : Int32) (v : gV) : Prop := True
set_option maxHeartbeats 4000000 in
set_option maxRecDepth 100000 in
theorem w_X12_runScript_155 {E : gE} {d : Nat} {Q : gO → gS → Prop}   (hd : 6 ≤ d) (s0 : Int32) (v : gV) (hp : p_X12_runScript_155   s0 v) (hQ : gqIV Q (f_X12_runScript_155  s0 v)) : gG E m_X12_runScript d Q 0 0 (rS v) 155 [] [.int s0] := by
  exact g_iret rfl dX12_runScript_155 hQ
def f_X12_runScript_150   (v : gV) : Int32 × gV := f_X12_runScript_155  ((f_X12_fail (2 : Int32) v).1) (f_X12_fail (2 : Int32) v).2
def p_X12_runScript_150   (v : gV) : Prop := (p_X12_fail (2 : Int32) v) ∧ (p_X12_runScript_155   ((f_X12_fail (2 : Int32) v).1) (f_X12_fail (2 : Int32) v).2)
set_option maxHeartbeats 4000000 in
set_option maxRecDepth 100000 in
theorem w_X12_runScript_150 {E : gE} {d : Nat} {Q : gO → gS → Prop}   (hd : 6 ≤ d)  (v : gV) (hp : p_X12_runScript_150    v) (hQ : gqIV Q (f_X12_runScript_150   v)) : gG E m_X12_runScript d Q 0 0 (rS v) 150 [(0, .ref (gX E + 559))] [] := by
  refine g_aload_n 0 dX12_runScript_150 rfl ?_
  refine g_iconst dX12_runScript_151 (2 : Int32) (by decide) ?_
  obtain ⟨h14, hp⟩ := hp
  refine g_callV (rest := []) s_X12_94_X12 rfl (c_X12_fail (E := E) (d := d - 1)   (by omega) (2 : Int32) v h14) (by decide : kd 559 = (0, 9)) (show 559 < 572 by decide) rfl rfl (Nat.le_of_ble_eq_true rfl) (by omega) (by decide) (by decide) dX12_runScript_152 (adV ?_) axN
  refine g_lv (lv' := []) [] rfl ?_
  exact w_X12_runScript_155  hd    ((f_X12_fail (2 : Int32) v).1) (f_X12_fail (2 : Int32) v).2 hp hQ
def f_X12_runScript_145  (x2 : Int32) (v : gV) : Int32 × gV := f_X12_runScript_150   (vM v 559 9 x2)
def p_X12_runScript_145  (x2 : Int32) (v : gV) : Prop := p_X12_runScript_150    (vM v 559 9 x2)
set_option maxHeartbeats 4000000 in
set_option maxRecDepth 100000 in
theorem w_X12_runScript_145 {E : gE} {d : Nat} {Q : gO → gS → Prop}   (hd : 6 ≤ d) (x2 : Int32) (v : gV) (hp : p_X12_runScript_145   x2 v) (hQ : gqIV Q (f_X12_runScript_145  x2 v)) : gG E m_X12_runScript d Q 0 0 (rS v) 145 [(0, .ref (gX E + 559)), (2, .int x2)] [] := by
  refine g_aload_n 0 dX12_runScript_145 rfl ?_
  refine g_iload_n 1 dX12_runScript_146 rfl ?_
  refine r_put pf_X12_38_X12 rfl (by decide : kd 559 = (0, 9)) (by decide) (by decide) rfl (show 559 < 572 by decide) rfl rfl dX12_runScript_147 ?_
  refine g_lv (lv' := [(0, .ref (gX E + 559))]) [0] rfl ?_
  exact w_X12_runScript_150  hd     (vM v 559 9 x2) hp hQ
def f_X12_runScript_128  (K33 : Int32 → gV → Int32 × gV)  (x2 : Int32) (s0 : Int32) (v : gV) : Int32 × gV := K33 (x2 + 1) v
def p_X12_runScript_128  (K33 : Int32 → gV → Int32 × gV)  (PK33 : Int32 → gV → Prop)  (x2 : Int32) (s0 : Int32) (v : gV) : Prop := PK33 (x2 + 1) v
set_option maxHeartbeats 4000000 in
set_option maxRecDepth 100000 in
theorem w_X12_runScript_128 {E : gE} {d : Nat} {Q : gO → gS → Prop}   (hd : 6 ≤ d) (K33 : Int32 → gV → Int32 × gV)  (PK33 : Int32 → gV → Prop)  (hK33 : ∀ (x2 : Int32) (v : gV), PK33 x2 v → gqIV Q (K33 x2 v) → gG E m_X12_runScript d Q 0 0 (rS v) 33 [(0, .ref (gX E + 559)), (2, .int x2)] [])  (x2 : Int32) (s0 : Int32) (v : gV) (hp : p_X12_runScript_128 K33 PK33 x2 s0 v) (hQ : gqIV Q (f_X12_runScript_128 K33 x2 s0 v)) : gG E m_X12_runScript d Q 0 0 (rS v) 128 [(0, .ref (gX E + 559)), (2, .int x2)] [.int s0] := by
  refine g_istore_n [(1, .int s0), (0, .ref (gX E + 559)), (2, .int x2)] dX12_runScript_128 rfl (by decide) rfl ?_
  refine g_goto 156 dX12_runScript_129 (by decide) ?_
  refine g_iinc 2 (x2 + 1) [(2, .int (x2 + 1)), (1, .int s0), (0, .ref (gX E + 559))] dX12_runScript_156 rfl rfl (by decide) rfl ?_
  refine g_goto 33 dX12_runScript_159 (by decide) ?_
  refine g_lv (lv' := [(0, .ref (gX E + 559)), (2, .int (x2 + 1))]) [2, 0] rfl ?_
  exact hK33 (x2 + 1) v hp hQ
def f_X12_runScript_33  : Nat → Int32 → gV → Int32 × gV
  | 0, _, v => (0, v)
  | n + 1, x2, v => if (v.1 559 19) ≤ x2 then (f_X12_runScript_170  ((f_X12_commit (v.1 559 19) v).1) (f_X12_commit (v.1 559 19) v).2) else (if (f_X12_why (v.1 568 x2.toNatClampNeg) (v.1 569 ((4 : Int32) * x2).toNatClampNeg) (v.1 569 (((4 : Int32) * x2) + (1 : Int32)).toNatClampNeg) (v.1 569 (((4 : Int32) * x2) + (2 : Int32)).toNatClampNeg) (v.1 569 (((4 : Int32) * x2) + (3 : Int32)).toNatClampNeg) v) = 0 then (f_X12_runScript_128 (fun x2 v => f_X12_runScript_33  n x2 v) x2 ((f_X12_does (v.1 568 x2.toNatClampNeg) (v.1 569 ((4 : Int32) * x2).toNatClampNeg) (v.1 569 (((4 : Int32) * x2) + (1 : Int32)).toNatClampNeg) (v.1 569 (((4 : Int32) * x2) + (2 : Int32)).toNatClampNeg) (v.1 569 (((4 : Int32) * x2) + (3 : Int32)).toNatClampNeg) v).1) (f_X12_does (v.1 568 x2.toNatClampNeg) (v.1 569 ((4 : Int32) * x2).toNatClampNeg) (v.1 569 (((4 : Int32) * x2) + (1 : Int32)).toNatClampNeg) (v.1 569 (((4 : Int32) * x2) + (2 : Int32)).toNatClampNeg) (v.1 569 (((4 : Int32) * x2) + (3 : Int32)).toNatClampNeg) v).2) else (f_X12_runScript_145  x2 (f_X12_copy 561 300 560 300 (0 : Int32) (0 : Int32) v)))
def p_X12_runScript_33  : Nat → Int32 → gV → Prop
  | 0, _, _ => False
  | n + 1, x2, v => (((v.1 559 19) ≤ x2) → ((p_X12_commit (v.1 559 19) v) ∧ (p_X12_runScript_170   ((f_X12_commit (v.1 559 19) v).1) (f_X12_commit (v.1 559 19) v).2))) ∧ (¬ ((v.1 559 19) ≤ x2) → ((vp_in x2 32) ∧ ((vp_in ((4 : Int32) * x2) 128) ∧ ((vp_in (((4 : Int32) * x2) + (1 : Int32)) 128) ∧ ((vp_in (((4 : Int32) * x2) + (2 : Int32)) 128) ∧ ((vp_in (((4 : Int32) * x2) + (3 : Int32)) 128) ∧ ((p_X12_why (v.1 568 x2.toNatClampNeg) (v.1 569 ((4 : Int32) * x2).toNatClampNeg) (v.1 569 (((4 : Int32) * x2) + (1 : Int32)).toNatClampNeg) (v.1 569 (((4 : Int32) * x2) + (2 : Int32)).toNatClampNeg) (v.1 569 (((4 : Int32) * x2) + (3 : Int32)).toNatClampNeg) v) ∧ ((((f_X12_why (v.1 568 x2.toNatClampNeg) (v.1 569 ((4 : Int32) * x2).toNatClampNeg) (v.1 569 (((4 : Int32) * x2) + (1 : Int32)).toNatClampNeg) (v.1 569 (((4 : Int32) * x2) + (2 : Int32)).toNatClampNeg) (v.1 569 (((4 : Int32) * x2) + (3 : Int32)).toNatClampNeg) v) = 0) → ((vp_in x2 32) ∧ ((vp_in ((4 : Int32) * x2) 128) ∧ ((vp_in (((4 : Int32) * x2) + (1 : Int32)) 128) ∧ ((vp_in (((4 : Int32) * x2) + (2 : Int32)) 128) ∧ ((vp_in (((4 : Int32) * x2) + (3 : Int32)) 128) ∧ ((p_X12_does (v.1 568 x2.toNatClampNeg) (v.1 569 ((4 : Int32) * x2).toNatClampNeg) (v.1 569 (((4 : Int32) * x2) + (1 : Int32)).toNatClampNeg) (v.1 569 (((4 : Int32) * x2) + (2 : Int32)).toNatClampNeg) (v.1 569 (((4 : Int32) * x2) + (3 : Int32)).toNatClampNeg) v) ∧ (p_X12_runScript_128 (fun x2 v => f_X12_runScript_33  n x2 v) (fun x2 v => p_X12_runScript_33   n x2 v) x2 ((f_X12_does (v.1 568 x2.toNatClampNeg) (v.1 569 ((4 : Int32) * x2).toNatClampNeg) (v.1 569 (((4 : Int32) * x2) + (1 : Int32)).toNatClampNeg) (v.1 569 (((4 : Int32) * x2) + (2 : Int32)).toNatClampNeg) (v.1 569 (((4 : Int32) * x2) + (3 : Int32)).toNatClampNeg) v).1) (f_X12_does (v.1 568 x2.toNatClampNeg) (v.1 569 ((4 : Int32) * x2).toNatClampNeg) (v.1 569 (((4 : Int32) * x2) + (1 : Int32)).toNatClampNeg) (v.1 569 (((4 : Int32) * x2) + (2 : Int32)).toNatClampNeg) (v.1 569 (((4 : Int32) * x2) + (3 : Int32)).toNatClampNeg) v).2)))))))) ∧ (¬ ((f_X12_why (v.1 568 x2.toNatClampNeg) (v.1 569 ((4 : Int32) * x2).toNatClampNeg) (v.1 569 (((4 : Int32) * x2) + (1 : Int32)).toNatClampNeg) (v.1 569 (((4 : Int32) * x2) + (2 : Int32)).toNatClampNeg) (v.1 569 (((4 : Int32) * x2) + (3 : Int32)).toNatClampNeg) v) = 0) → ((p_X12_copy 561 300 560 300 (0 : Int32) (0 : Int32) v) ∧ (p_X12_runScript_145   x2 (f_X12_copy 561 300 560 300 (0 : Int32) (0 : Int32) v))))))))))))
set_option maxHeartbeats 4000000 in
set_option maxRecDepth 100000 in
theorem w_X12_runScript_33 {E : gE} {d : Nat} {Q : gO → gS → Prop}   (hd : 6 ≤ d) : ∀ (n : Nat) (x2 : Int32) (v : gV), p_X12_runScript_33   n x2 v → gqIV Q (f_X12_runScript_33  n x2 v) → gG E m_X12_runScript d Q 0 0 (rS v) 33 [(0, .ref (gX E + 559)), (2, .int x2)] [] := by
  intro n
  induction n with
  | zero => intro x2 v hp; exact hp.elim
  | succ n ih =>
    intro x2 v hp hQ
    refine g_iload_n 1 dX12_runScript_33 rfl ?_
    refine g_aload_n 0 dX12_runScript_34 rfl ?_
    refine r_get (.int (v.1 559 19)) f_X12_69_X12 rfl (by decide : kd 559 = (0, 9)) (show 559 < 572 by decide) dX12_runScript_35 (fun _ => rfl) ?_
    refine g_icmp_ge 162 dX12_runScript_38 (by decide) (fun h4 => ?_) (fun h4 => ?_)
    · have hQ := qp (P := gqIV Q) h4 hQ
      have hp := hp.1 h4
      refine g_aload_n 0 dX12_runScript_162 rfl ?_
      refine g_aload_n 0 dX12_runScript_163 rfl ?_
      refine r_get (.int (v.1 559 19)) f_X12_69_X12 rfl (by decide : kd 559 = (0, 9)) (show 559 < 572 by decide) dX12_runScript_164 (fun _ => rfl) ?_
      obtain ⟨h5, hp⟩ := hp
      refine g_callV (rest := []) s_X12_101_X12 rfl (c_X12_commit (E := E) (d := d - 1)   (by omega) (v.1 559 19) v h5) (by decide : kd 559 = (0, 9)) (show 559 < 572 by decide) rfl rfl (Nat.le_of_ble_eq_true rfl) (by omega) (by decide) (by decide) dX12_runScript_167 (adV ?_) axN
      refine g_lv (lv' := []) [] rfl ?_
      exact w_X12_runScript_170  hd    ((f_X12_commit (v.1 559 19) v).1) (f_X12_commit (v.1 559 19) v).2 hp hQ
    · have hQ := qn (P := gqIV Q) h4 hQ
      have hp := hp.2 h4
      refine g_iconst dX12_runScript_41 (4 : Int32) (by decide) ?_
      refine g_iload_n 1 dX12_runScript_42 rfl ?_
      refine g_imul dX12_runScript_43 ?_
      refine g_istore_n [(3, .int ((4 : Int32) * x2)), (0, .ref (gX E + 559)), (2, .int x2)] dX12_runScript_44 rfl (by decide) rfl ?_
      refine g_aload_n 1 dX12_runScript_45 rfl ?_
      refine g_aload_n 1 dX12_runScript_46 rfl ?_
      refine r_get (.ref (gX E + 568)) f_X12_54_X12 rfl (by decide : kd 559 = (0, 9)) (show 559 < 572 by decide) dX12_runScript_47 (fun _ => rfl) ?_
      refine g_iload_n 2 dX12_runScript_50 rfl ?_
      obtain ⟨h6, hp⟩ := hp
      refine g_iald (by decide : kd 568 = (1, 32)) (show 568 < 572 by decide) h6 dX12_runScript_51 ?_
      refine g_aload_n 1 dX12_runScript_52 rfl ?_
      refine r_get (.ref (gX E + 569)) f_X12_57_X12 rfl (by decide : kd 559 = (0, 9)) (show 559 < 572 by decide) dX12_runScript_53 (fun _ => rfl) ?_
      refine g_iload_n 0 dX12_runScript_56 rfl ?_
      obtain ⟨h7, hp⟩ := hp
      refine g_iald (by decide : kd 569 = (1, 128)) (show 569 < 572 by decide) h7 dX12_runScript_57 ?_
      refine g_aload_n 1 dX12_runScript_58 rfl ?_
      refine r_get (.ref (gX E + 569)) f_X12_57_X12 rfl (by decide : kd 559 = (0, 9)) (show 559 < 572 by decide) dX12_runScript_59 (fun _ => rfl) ?_
      refine g_iload_n 0 dX12_runScript_62 rfl ?_
      refine g_iconst dX12_runScript_63 (1 : Int32) (by decide) ?_
      refine g_iadd dX12_runScript_64 ?_
      obtain ⟨h8, hp⟩ := hp
      refine g_iald (by decide : kd 569 = (1, 128)) (show 569 < 572 by decide) h8 dX12_runScript_65 ?_
      refine g_aload_n 1 dX12_runScript_66 rfl ?_
      refine r_get (.ref (gX E + 569)) f_X12_57_X12 rfl (by decide : kd 559 = (0, 9)) (show 559 < 572 by decide) dX12_runScript_67 (fun _ => rfl) ?_
      refine g_iload_n 0 dX12_runScript_70 rfl ?_
      refine g_iconst dX12_runScript_71 (2 : Int32) (by decide) ?_
      refine g_iadd dX12_runScript_72 ?_
      obtain ⟨h9, hp⟩ := hp
      refine g_iald (by decide : kd 569 = (1, 128)) (show 569 < 572 by decide) h9 dX12_runScript_73 ?_
      refine g_aload_n 1 dX12_runScript_74 rfl ?_
      refine r_get (.ref (gX E + 569)) f_X12_57_X12 rfl (by decide : kd 559 = (0, 9)) (show 559 < 572 by decide) dX12_runScript_75 (fun _ => rfl) ?_
      refine g_iload_n 0 dX12_runScript_78 rfl ?_
      refine g_iconst dX12_runScript_79 (3 : Int32) (by decide) ?_
      refine g_iadd dX12_runScript_80 ?_
      obtain ⟨h10, hp⟩ := hp
      refine g_iald (by decide : kd 569 = (1, 128)) (show 569 < 572 by decide) h10 dX12_runScript_81 ?_
      obtain ⟨h11, hp⟩ := hp
      refine g_callV (rest := []) s_X12_326_X12 rfl (c_X12_why (E := E) (d := d - 1)   (by omega) (v.1 568 x2.toNatClampNeg) (v.1 569 ((4 : Int32) * x2).toNatClampNeg) (v.1 569 (((4 : Int32) * x2) + (1 : Int32)).toNatClampNeg) (v.1 569 (((4 : Int32) * x2) + (2 : Int32)).toNatClampNeg) (v.1 569 (((4 : Int32) * x2) + (3 : Int32)).toNatClampNeg) v h11) (by decide : kd 559 = (0, 9)) (show 559 < 572 by decide) rfl rfl (Nat.le_of_ble_eq_true rfl) (by omega) (by decide) (by decide) dX12_runScript_82 (adV ?_) axN
      refine g_if_ne 132 dX12_runScript_85 (by decide) (fun h12 => ?_) (fun h12 => ?_)
      · have hQ := qn (P := gqIV Q) h12 hQ
        have hp := hp.2 h12
        refine g_aload_n 1 dX12_runScript_132 rfl ?_
        refine r_get (.ref (gX E + 561)) f_X12_13_X12 rfl (by decide : kd 559 = (0, 9)) (show 559 < 572 by decide) dX12_runScript_133 (fun _ => rfl) ?_
        refine g_iconst dX12_runScript_136 (0 : Int32) (by decide) ?_
        refine g_aload_n 1 dX12_runScript_137 rfl ?_
        refine r_get (.ref (gX E + 560)) f_X12_7_X12 rfl (by decide : kd 559 = (0, 9)) (show 559 < 572 by decide) dX12_runScript_138 (fun _ => rfl) ?_
        refine g_iconst dX12_runScript_141 (0 : Int32) (by decide) ?_
        obtain ⟨h13, hp⟩ := hp
        refine g_callS (rest := []) s_X12_75 rfl (c_X12_copy (E := E) (d := d - 1) 561 300 560 300 (by decide) (by decide : kd 561 = (1, 300)) (show 561 < 572 by decide) (by decide) (by decide : kd 560 = (1, 300)) (show 560 < 572 by decide) (by omega) (0 : Int32) (0 : Int32) v h13) rfl rfl (Nat.le_of_ble_eq_true rfl) (by omega) (by decide) (by decide) dX12_runScript_142 (adN ?_) axN
        refine g_lv (lv' := [(0, .ref (gX E + 559)), (2, .int x2)]) [1, 2] rfl ?_
        exact w_X12_runScript_145  hd    x2 (f_X12_copy 561 300 560 300 (0 : Int32) (0 : Int32) v) hp hQ
      · have hQ := qp (P := gqIV Q) h12 hQ
        have hp := hp.1 h12
        refine g_aload_n 1 dX12_runScript_88 rfl ?_
        refine g_aload_n 1 dX12_runScript_89 rfl ?_
        refine r_get (.ref (gX E + 568)) f_X12_54_X12 rfl (by decide : kd 559 = (0, 9)) (show 559 < 572 by decide) dX12_runScript_90 (fun _ => rfl) ?_
        refine g_iload_n 2 dX12_runScript_93 rfl ?_
        obtain ⟨h15, hp⟩ := hp
        refine g_iald (by decide : kd 568 = (1, 32)) (show 568 < 572 by decide) h15 dX12_runScript_94 ?_
        refine g_aload_n 1 dX12_runScript_95 rfl ?_
        refine r_get (.ref (gX E + 569)) f_X12_57_X12 rfl (by decide : kd 559 = (0, 9)) (show 559 < 572 by decide) dX12_runScript_96 (fun _ => rfl) ?_
        refine g_iload_n 0 dX12_runScript_99 rfl ?_
        obtain ⟨h16, hp⟩ := hp
        refine g_iald (by decide : kd 569 = (1, 128)) (show 569 < 572 by decide) h16 dX12_runScript_100 ?_
        refine g_aload_n 1 dX12_runScript_101 rfl ?_
        refine r_get (.ref (gX E + 569)) f_X12_57_X12 rfl (by decide : kd 559 = (0, 9)) (show 559 < 572 by decide) dX12_runScript_102 (fun _ => rfl) ?_
        refine g_iload_n 0 dX12_runScript_105 rfl ?_
        refine g_iconst dX12_runScript_106 (1 : Int32) (by decide) ?_
        refine g_iadd dX12_runScript_107 ?_
        obtain ⟨h17, hp⟩ := hp
        refine g_iald (by decide : kd 569 = (1, 128)) (show 569 < 572 by decide) h17 dX12_runScript_108 ?_
        refine g_aload_n 1 dX12_runScript_109 rfl ?_
        refine r_get (.ref (gX E + 569)) f_X12_57_X12 rfl (by decide : kd 559 = (0, 9)) (show 559 < 572 by decide) dX12_runScript_110 (fun _ => rfl) ?_
        refine g_iload_n 0 dX12_runScript_113 rfl ?_
        refine g_iconst dX12_runScript_114 (2 : Int32) (by decide) ?_
        refine g_iadd dX12_runScript_115 ?_
        obtain ⟨h18, hp⟩ := hp
        refine g_iald (by decide : kd 569 = (1, 128)) (show 569 < 572 by decide) h18 dX12_runScript_116 ?_
        refine g_aload_n 1 dX12_runScript_117 rfl ?_
        refine r_get (.ref (gX E + 569)) f_X12_57_X12 rfl (by decide : kd 559 = (0, 9)) (show 559 < 572 by decide) dX12_runScript_118 (fun _ => rfl) ?_
        refine g_iload_n 0 dX12_runScript_121 rfl ?_
        refine g_iconst dX12_runScript_122 (3 : Int32) (by decide) ?_
        refine g_iadd dX12_runScript_123 ?_
        obtain ⟨h19, hp⟩ := hp
        refine g_iald (by decide : kd 569 = (1, 128)) (show 569 < 572 by decide) h19 dX12_runScript_124 ?_
        obtain ⟨h20, hp⟩ := hp
        refine g_callV (rest := []) s_X12_330_X12 rfl (c_X12_does (E := E) (d := d - 1)   (by omega) (v.1 568 x2.toNatClampNeg) (v.1 569 ((4 : Int32) * x2).toNatClampNeg) (v.1 569 (((4 : Int32) * x2) + (1 : Int32)).toNatClampNeg) (v.1 569 (((4 : Int32) * x2) + (2 : Int32)).toNatClampNeg) (v.1 569 (((4 : Int32) * x2) + (3 : Int32)).toNatClampNeg) v h20) (by decide : kd 559 = (0, 9)) (show 559 < 572 by decide) rfl rfl (Nat.le_of_ble_eq_true rfl) (by omega) (by decide) (by decide) dX12_runScript_125 (adV ?_) axN
        refine g_lv (lv' := [(0, .ref (gX E + 559)), (2, .int x2)]) [1, 2] rfl ?_
        exact w_X12_runScript_128  hd (fun x2 v => f_X12_runScript_33  n x2 v) (fun x2 v => p_X12_runScript_33   n x2 v) ih x2 ((f_X12_does (v.1 568 x2.toNatClampNeg) (v.1 569 ((4 : Int32) * x2).toNatClampNeg) (v.1 569 (((4 : Int32) * x2) + (1 : Int32)).toNatClampNeg) (v.1 569 (((4 : Int32) * x2) + (2 : Int32)).toNatClampNeg) (v.1 569 (((4 : Int32) * x2) + (3 : Int32)).toNatClampNeg) v).1) (f_X12_does (v.1 568 x2.toNatClampNeg) (v.1 569 ((4 : Int32) * x2).toNatClampNeg) (v.1 569 (((4 : Int32) * x2) + (1 : Int32)).toNatClampNeg) (v.1 569 (((4 : Int32) * x2) + (2 : Int32)).toNatClampNeg) (v.1 569 (((4 : Int32) * x2) + (3 : Int32)).toNatClampNeg) v).2 hp hQ
def f_X12_runScript_28  (s0 : Int32) (v : gV) : Int32 × gV := (s0, v)
def p_X12_runScript_28  (s0 : Int32) (v : gV) : Prop := True
set_option maxHeartbeats 4000000 in
set_option maxRecDepth 100000 in
theorem w_X12_runScript_28 {E : gE} {d : Nat} {Q : gO → gS → Prop}   (hd : 6 ≤ d) (s0 : Int32) (v : gV) (hp : p_X12_runScript_28   s0 v) (hQ : gqIV Q (f_X12_runScript_28  s0 v)) : gG E m_X12_runScript d Q 0 0 (rS v) 28 [] [.int s0] := by
  exact g_iret rfl dX12_runScript_28 hQ
def f_X12_runScript_23   (v : gV) : Int32 × gV := f_X12_runScript_28  ((f_X12_fail (1 : Int32) v).1) (f_X12_fail (1 : Int32) v).2
def p_X12_runScript_23   (v : gV) : Prop := (p_X12_fail (1 : Int32) v) ∧ (p_X12_runScript_28   ((f_X12_fail (1 : Int32) v).1) (f_X12_fail (1 : Int32) v).2)
set_option maxHeartbeats 4000000 in
set_option maxRecDepth 100000 in
theorem w_X12_runScript_23 {E : gE} {d : Nat} {Q : gO → gS → Prop}   (hd : 6 ≤ d)  (v : gV) (hp : p_X12_runScript_23    v) (hQ : gqIV Q (f_X12_runScript_23   v)) : gG E m_X12_runScript d Q 0 0 (rS v) 23 [(0, .ref (gX E + 559))] [] := by
  refine g_aload_n 0 dX12_runScript_23 rfl ?_
  refine g_iconst dX12_runScript_24 (1 : Int32) (by decide) ?_
  obtain ⟨h21, hp⟩ := hp
  refine g_callV (rest := []) s_X12_94_X12 rfl (c_X12_fail (E := E) (d := d - 1)   (by omega) (1 : Int32) v h21) (by decide : kd 559 = (0, 9)) (show 559 < 572 by decide) rfl rfl (Nat.le_of_ble_eq_true rfl) (by omega) (by decide) (by decide) dX12_runScript_25 (adV ?_) axN
  refine g_lv (lv' := []) [] rfl ?_
  exact w_X12_runScript_28  hd    ((f_X12_fail (1 : Int32) v).1) (f_X12_fail (1 : Int32) v).2 hp hQ
def f_X12_runScript_8   (v : gV) : Int32 × gV := if (v.1 559 20) = 0 then (f_X12_runScript_33  5000 (0 : Int32) v) else (f_X12_runScript_23   (vM v 559 8 (v.1 559 18)))
def p_X12_runScript_8   (v : gV) : Prop := (((v.1 559 20) = 0) → (p_X12_runScript_33   5000 (0 : Int32) v)) ∧ (¬ ((v.1 559 20) = 0) → (p_X12_runScript_23    (vM v 559 8 (v.1 559 18))))
set_option maxHeartbeats 4000000 in
set_option maxRecDepth 100000 in
theorem w_X12_runScript_8 {E : gE} {d : Nat} {Q : gO → gS → Prop}   (hd : 6 ≤ d)  (v : gV) (hp : p_X12_runScript_8    v) (hQ : gqIV Q (f_X12_runScript_8   v)) : gG E m_X12_runScript d Q 0 0 (rS v) 8 [(0, .ref (gX E + 559))] [] := by
  refine g_aload_n 0 dX12_runScript_8 rfl ?_
  refine r_get (.int (v.1 559 20)) f_X12_72_X12 rfl (by decide : kd 559 = (0, 9)) (show 559 < 572 by decide) dX12_runScript_9 (fun _ => rfl) ?_
  refine g_if_eq 29 dX12_runScript_12 (by decide) (fun h3 => ?_) (fun h3 => ?_)
  · have hQ := qp (P := gqIV Q) h3 hQ
    have hp := hp.1 h3
    refine g_iconst dX12_runScript_29 (0 : Int32) (by decide) ?_
    refine g_istore_n [(1, .int ((0 : Int32))), (0, .ref (gX E + 559))] dX12_runScript_30 rfl (by decide) rfl ?_
    refine g_iconst dX12_runScript_31 (0 : Int32) (by decide) ?_
    refine g_istore_n [(2, .int ((0 : Int32))), (1, .int ((0 : Int32))), (0, .ref (gX E + 559))] dX12_runScript_32 rfl (by decide) rfl ?_
    refine g_lv (lv' := [(0, .ref (gX E + 559)), (2, .int ((0 : Int32)))]) [2, 0] rfl ?_
    exact w_X12_runScript_33  hd    5000 (0 : Int32) v hp hQ
  · have hQ := qn (P := gqIV Q) h3 hQ
    have hp := hp.2 h3
    refine g_aload_n 0 dX12_runScript_15 rfl ?_
    refine g_aload_n 0 dX12_runScript_16 rfl ?_
    refine r_get (.int (v.1 559 18)) f_X12_66_X12 rfl (by decide : kd 559 = (0, 9)) (show 559 < 572 by decide) dX12_runScript_17 (fun _ => rfl) ?_
    refine r_put pf_X12_35_X12 rfl (by decide : kd 559 = (0, 9)) (by decide) (by decide) rfl (show 559 < 572 by decide) rfl rfl dX12_runScript_20 ?_
    exact w_X12_runScript_23  hd     (vM v 559 8 (v.1 559 18)) hp hQ
def f_X12_runScript_4   (v : gV) : Int32 × gV := f_X12_runScript_8   (f_X12_parse  v)
def p_X12_runScript_4   (v : gV) : Prop := (p_X12_parse  v) ∧ (p_X12_runScript_8    (f_X12_parse  v))
set_option maxHeartbeats 4000000 in
set_option maxRecDepth 100000 in
theorem w_X12_runScript_4 {E : gE} {d : Nat} {Q : gO → gS → Prop}   (hd : 6 ≤ d)  (v : gV) (hp : p_X12_runScript_4    v) (hQ : gqIV Q (f_X12_runScript_4   v)) : gG E m_X12_runScript d Q 0 0 (rS v) 4 [(0, .ref (gX E + 559))] [] := by
  refine g_aload_n 0 dX12_runScript_4 rfl ?_
  obtain ⟨h2, hp⟩ := hp
  refine g_callV (rest := []) s_X12_323_X12 rfl (c_X12_parse (E := E) (d := d - 1)   (by omega)  v h2) (by decide : kd 559 = (0, 9)) (show 559 < 572 by decide) rfl rfl (Nat.le_of_ble_eq_true rfl) (by omega) (by decide) (by decide) dX12_runScript_5 (adN ?_) axN
  exact w_X12_runScript_8  hd     (f_X12_parse  v) hp hQ
def f_X12_runScript_0   (v : gV) : Int32 × gV := f_X12_runScript_4   (f_X12_begin  v)
def p_X12_runScript_0   (v : gV) : Prop := (p_X12_begin  v) ∧ (p_X12_runScript_4    (f_X12_begin  v))
set_option maxHeartbeats 4000000 in
set_option maxRecDepth 100000 in
theorem w_X12_runScript_0 {E : gE} {d : Nat} {Q : gO → gS → Prop}   (hd : 6 ≤ d)  (v : gV) (hp : p_X12_runScript_0    v) (hQ : gqIV Q (f_X12_runScript_0   v)) : gG E m_X12_runScript d Q 0 0 (rS v) 0 [(0, .ref (gX E + 559))] [] := by
  refine g_aload_n 0 dX12_runScript_0 rfl ?_
  obtain ⟨h1, hp⟩ := hp
  refine g_callV (rest := []) s_X12_87_X12 rfl (c_X12_begin (E := E) (d := d - 1)   (by omega)  v h1) (by decide : kd 559 = (0, 9)) (show 559 < 572 by decide) rfl rfl (Nat.le_of_ble_eq_true rfl) (by omega) (by decide) (by decide) dX12_runScript_1 (adN ?_) axN
  exact w_X12_runScript_4  hd     (f_X12_begin  v) hp hQ
def f_X12_runScript   (v : gV) : Int32 × gV := f_X12_runScript_0  v
def p_X12_runScript   (v : gV) : Prop := p_X12_runScript_0  v
theorem c_X12_runScript {E : gE} {d : Nat}   (hd : 6 ≤ d)  (v : gV) (hp : p_X12_runScript  v) : CT E m_X12_runScript d 0 0 [.ref (gX E + 559)] (rS v) (Cq (.inl (some (.int ((f_X12_runScript  v).1)))) (f_X12_runScript  v).2) := CT.of ok_X12_runScript rfl (Nat.le_of_ble_eq_true rfl) (w_X12_runScript_0  hd  v hp ⟨rfl, rfl⟩)
def f_X1_makeTreaty_43 (b : Nat) (x5 : Int32) (v : gV) : (Int32 ⊕ String) × gV := (Sum.inl x5, v)
def p_X1_makeTreaty_43 (b : Nat) (x5 : Int32) (v : gV) : Prop := True
set_option maxHeartbeats 4000000 in
set_option maxRecDepth 100000 in
theorem w_X1_makeTreaty_43 {E : gE} {d : Nat} {Q : gO → gS → Prop} (b : Nat) (hb : isBk b) (hd : 9 ≤ d) (x5 : Int32) (v : gV) (hp : p_X1_makeTreaty_43 b   x5 v) (hQ : gqTIV Q (f_X1_makeTreaty_43 b  x5 v)) : gG E m_X1_makeTreaty d Q 0 0 (rS v) 43 [(5, .int x5)] [] := by
  refine g_iload 0 dX1_makeTreaty_43 rfl ?_
  exact g_iret rfl dX1_makeTreaty_45 hQ
def f_X1_makeTreaty_32 (b : Nat) (x4 : Int32) (x5 : Int32) (v : gV) : (Int32 ⊕ String) × gV := f_X1_makeTreaty_43 b  x5 (vM v b 6 ((v.1 b 6) - x4))
def p_X1_makeTreaty_32 (b : Nat) (x4 : Int32) (x5 : Int32) (v : gV) : Prop := p_X1_makeTreaty_43 b   x5 (vM v b 6 ((v.1 b 6) - x4))
set_option maxHeartbeats 4000000 in
set_option maxRecDepth 100000 in
theorem w_X1_makeTreaty_32 {E : gE} {d : Nat} {Q : gO → gS → Prop} (b : Nat) (hb : isBk b) (hd : 9 ≤ d) (x4 : Int32) (x5 : Int32) (v : gV) (hp : p_X1_makeTreaty_32 b   x4 x5 v) (hQ : gqTIV Q (f_X1_makeTreaty_32 b  x4 x5 v)) : gG E m_X1_makeTreaty d Q 0 0 (rS v) 32 [(0, .ref (gX E + b)), (4, .int x4), (5, .int x5)] [] := by
  refine g_aload_n 0 dX1_makeTreaty_32 rfl ?_
  refine g_dup dX1_makeTreaty_33 rfl ?_
  refine r_get (.int (v.1 b 6)) f_X1_66_X1 rfl (kbz hb) (lt_b0 hb) dX1_makeTreaty_34 (fun _ => rfl) ?_
  refine g_iload 1 dX1_makeTreaty_37 rfl ?_
  refine g_isub dX1_makeTreaty_39 ?_
  refine r_put pf_X1_66_X1 rfl (kbz hb) (by decide) (by decide) rfl (lt_b0 hb) rfl rfl dX1_makeTreaty_40 ?_
  refine g_lv (lv' := [(5, .int x5)]) [2] rfl ?_
  exact w_X1_makeTreaty_43 b hb hd    x5 (vM v b 6 ((v.1 b 6) - x4)) hp hQ
def f_X1_makeTreaty_19 (b : Nat) (x4 : Int32) (s0 : Int32) (v : gV) : (Int32 ⊕ String) × gV := f_X1_makeTreaty_32 b  x4 s0 (vM v b 9 ((v.1 b 9) + x4))
def p_X1_makeTreaty_19 (b : Nat) (x4 : Int32) (s0 : Int32) (v : gV) : Prop := p_X1_makeTreaty_32 b   x4 s0 (vM v b 9 ((v.1 b 9) + x4))
set_option maxHeartbeats 4000000 in
set_option maxRecDepth 100000 in
theorem w_X1_makeTreaty_19 {E : gE} {d : Nat} {Q : gO → gS → Prop} (b : Nat) (hb : isBk b) (hd : 9 ≤ d) (x4 : Int32) (s0 : Int32) (v : gV) (hp : p_X1_makeTreaty_19 b   x4 s0 v) (hQ : gqTIV Q (f_X1_makeTreaty_19 b  x4 s0 v)) : gG E m_X1_makeTreaty d Q 0 0 (rS v) 19 [(0, .ref (gX E + b)), (4, .int x4)] [.int s0] := by
  refine g_istore [(5, .int s0), (0, .ref (gX E + b)), (4, .int x4)] dX1_makeTreaty_19 (by decide) rfl ?_
  refine g_aload_n 1 dX1_makeTreaty_21 rfl ?_
  refine g_dup dX1_makeTreaty_22 rfl ?_
  refine r_get (.int (v.1 b 9)) f_X1_75_X1 rfl (kbz hb) (lt_b0 hb) dX1_makeTreaty_23 (fun _ => rfl) ?_
  refine g_iload 2 dX1_makeTreaty_26 rfl ?_
  refine g_iadd dX1_makeTreaty_28 ?_
  refine r_put pf_X1_75_X1 rfl (kbz hb) (by decide) (by decide) rfl (lt_b0 hb) rfl rfl dX1_makeTreaty_29 ?_
  refine g_lv (lv' := [(0, .ref (gX E + b)), (4, .int x4), (5, .int s0)]) [1, 2, 0] rfl ?_
  exact w_X1_makeTreaty_32 b hb hd    x4 s0 (vM v b 9 ((v.1 b 9) + x4)) hp hQ
def f_X1_makeTreaty_8 (b : Nat) (x1 : Int32) (x2 : Int32) (x3 : Int32) (x4 : Int32) (s0 : Int32) (v : gV) : (Int32 ⊕ String) × gV := Sum.elim (fun (sr5 : Int32) => f_X1_makeTreaty_19 b  x4 sr5 (f_X8_add b x1 x2 x3 v).2) (fun (e : String) => (Sum.inr e, (f_X8_add b x1 x2 x3 v).2)) (f_X8_add b x1 x2 x3 v).1
def p_X1_makeTreaty_8 (b : Nat) (x1 : Int32) (x2 : Int32) (x3 : Int32) (x4 : Int32) (s0 : Int32) (v : gV) : Prop := (p_X8_add b x1 x2 x3 v) ∧ (∀ (sr5 : Int32), (f_X8_add b x1 x2 x3 v).1 = Sum.inl sr5 → (p_X1_makeTreaty_19 b   x4 sr5 (f_X8_add b x1 x2 x3 v).2))
set_option maxHeartbeats 4000000 in
set_option maxRecDepth 100000 in
theorem w_X1_makeTreaty_8 {E : gE} {d : Nat} {Q : gO → gS → Prop} (b : Nat) (hb : isBk b) (hd : 9 ≤ d) (x1 : Int32) (x2 : Int32) (x3 : Int32) (x4 : Int32) (s0 : Int32) (v : gV) (hp : p_X1_makeTreaty_8 b   x1 x2 x3 x4 s0 v) (hQ : gqTIV Q (f_X1_makeTreaty_8 b  x1 x2 x3 x4 s0 v)) : gG E m_X1_makeTreaty d Q 4 24 (rS v) 8 [(0, .ref (gX E + b)), (1, .int x1), (2, .int x2), (3, .int x3), (4, .int x4)] [.int s0] := by
  refine g_pop dX1_makeTreaty_8 rfl ?_
  refine g_aload_n 0 dX1_makeTreaty_9 rfl ?_
  refine r_get (.ref (gX E + (b + 30))) f_X1_28_X1 rfl (kbz hb) (lt_b0 hb) dX1_makeTreaty_10 (fun _ => rfl) ?_
  refine g_iload_n 1 dX1_makeTreaty_13 rfl ?_
  refine g_iload_n 2 dX1_makeTreaty_14 rfl ?_
  refine g_iload_n 3 dX1_makeTreaty_15 rfl ?_
  obtain ⟨h4, hp⟩ := hp
  refine g_callV (rest := []) s_X1_127_X8 rfl (c_X8_add (E := E) (d := d - 1) b hb (by omega) x1 x2 x3 v h4) (kb_30 hb) (lt_b hb (by decide)) rfl rfl (Nat.le_of_ble_eq_true rfl) (by omega) (by decide) (by decide) dX1_makeTreaty_16 (adTI (fun sr5 h6 => ?_)) (axTI (fun e h6 => g_outs rfl rfl (qe (P := gqTIV Q) h6 hQ)))
  have hQ := ql (P := gqTIV Q) h6 hQ
  have hp := hp sr5 h6
  refine g_lv (lv' := [(0, .ref (gX E + b)), (4, .int x4)]) [0, 4] rfl ?_
  exact w_X1_makeTreaty_19 b hb hd    x4 sr5 (f_X8_add b x1 x2 x3 v).2 hp hQ
def f_X1_makeTreaty_0 (b : Nat) (x1 : Int32) (x2 : Int32) (x3 : Int32) (x4 : Int32) (v : gV) : (Int32 ⊕ String) × gV := Sum.elim (fun (sr2 : Int32) => f_X1_makeTreaty_8 b  x1 x2 x3 x4 sr2 v) (fun (e : String) => (Sum.inr e, v)) (f_X11_checkedNumber x4 (0 : Int32) (99 : Int32) v)
def p_X1_makeTreaty_0 (b : Nat) (x1 : Int32) (x2 : Int32) (x3 : Int32) (x4 : Int32) (v : gV) : Prop := (p_X11_checkedNumber x4 (0 : Int32) (99 : Int32) v) ∧ (∀ (sr2 : Int32), (f_X11_checkedNumber x4 (0 : Int32) (99 : Int32) v) = Sum.inl sr2 → (p_X1_makeTreaty_8 b   x1 x2 x3 x4 sr2 v))
set_option maxHeartbeats 4000000 in
set_option maxRecDepth 100000 in
theorem w_X1_makeTreaty_0 {E : gE} {d : Nat} {Q : gO → gS → Prop} (b : Nat) (hb : isBk b) (hd : 9 ≤ d) (x1 : Int32) (x2 : Int32) (x3 : Int32) (x4 : Int32) (v : gV) (hp : p_X1_makeTreaty_0 b   x1 x2 x3 x4 v) (hQ : gqTIV Q (f_X1_makeTreaty_0 b  x1 x2 x3 x4 v)) : gG E m_X1_makeTreaty d Q 5 30 (rS v) 0 [(0, .ref (gX E + b)), (1, .int x1), (2, .int x2), (3, .int x3), (4, .int x4)] [] := by
  refine g_iload 4 dX1_makeTreaty_0 rfl ?_
  refine g_iconst dX1_makeTreaty_2 (0 : Int32) (by decide) ?_
  refine g_bipush dX1_makeTreaty_3 (99 : Int32) (by decide) ?_
  obtain ⟨h1, hp⟩ := hp
  refine g_callN (rest := []) s_X1_123 rfl (c_X11_checkedNumber (E := E) (d := d - 1)   (by omega) x4 (0 : Int32) (99 : Int32) v h1) rfl rfl (Nat.le_of_ble_eq_true rfl) (by omega) (by decide) (by decide) dX1_makeTreaty_5 (adTI (fun sr2 h3 => ?_)) (axTI (fun e h3 => g_outs rfl rfl (qe (P := gqTIV Q) h3 hQ)))
  have hQ := ql (P := gqTIV Q) h3 hQ
  have hp := hp sr2 h3
  exact w_X1_makeTreaty_8 b hb hd    x1 x2 x3 x4 sr2 v hp hQ
def f_X1_makeTreaty (b : Nat) (x1 : Int32) (x2 : Int32) (x3 : Int32) (x4 : Int32) (v : gV) : (Int32 ⊕ String) × gV := f_X1_makeTreaty_0 b x1 x2 x3 x4 v
def p_X1_makeTreaty (b : Nat) (x1 : Int32) (x2 : Int32) (x3 : Int32) (x4 : Int32) (v : gV) : Prop := p_X1_makeTreaty_0 b x1 x2 x3 x4 v
theorem c_X1_makeTreaty {E : gE} {d : Nat} (b : Nat) (hb : isBk b) (hd : 9 ≤ d) (x1 : Int32) (x2 : Int32) (x3 : Int32) (x4 : Int32) (v : gV) (hp : p_X1_makeTreaty b x1 x2 x3 x4 v) : CT E m_X1_makeTreaty d 5 30 [.ref (gX E + b), .int x1, .int x2, .int x3, .int x4] (rS v) (Cq (gOi (f_X1_makeTreaty b x1 x2 x3 x4 v).1) (f_X1_makeTreaty b x1 x2 x3 x4 v).2) := CT.of ok_X1_makeTreaty rfl (Nat.le_of_ble_eq_true rfl) (w_X1_makeTreaty_0 b hb hd x1 x2 x3 x4 v hp ⟨rfl, rfl⟩)
def f_X1_removeTreaty_57 (b : Nat) (x2 : Int32) (v : gV) : (Int32 ⊕ String) × gV := (Sum.inl x2, v)
def p_X1_removeTreaty_57 (b : Nat) (x2 : Int32) (v : gV) : Prop := True
set_option maxHeartbeats 4000000 in
set_option maxRecDepth 100000 in
theorem w_X1_removeTreaty_57 {E : gE} {d : Nat} {Q : gO → gS → Prop} (b : Nat) (hb : isBk b) (hd : 8 ≤ d) (x2 : Int32) (v : gV) (hp : p_X1_removeTreaty_57 b   x2 v) (hQ : gqTIV Q (f_X1_removeTreaty_57 b  x2 v)) : gG E m_X1_removeTreaty d Q 0 0 (rS v) 57 [(2, .int x2)] [] := by
  refine g_iload_n 0 dX1_removeTreaty_57 rfl ?_
  exact g_iret rfl dX1_removeTreaty_58 hQ
def f_X1_removeTreaty_49 (b : Nat) (x1 : Int32) (x2 : Int32) (v : gV) : (Int32 ⊕ String) × gV := f_X1_removeTreaty_57 b  x2 (f_X2_forgetTreaty b x1 v)
def p_X1_removeTreaty_49 (b : Nat) (x1 : Int32) (x2 : Int32) (v : gV) : Prop := (p_X2_forgetTreaty b x1 v) ∧ (p_X1_removeTreaty_57 b   x2 (f_X2_forgetTreaty b x1 v))
set_option maxHeartbeats 4000000 in
set_option maxRecDepth 100000 in
theorem w_X1_removeTreaty_49 {E : gE} {d : Nat} {Q : gO → gS → Prop} (b : Nat) (hb : isBk b) (hd : 8 ≤ d) (x1 : Int32) (x2 : Int32) (v : gV) (hp : p_X1_removeTreaty_49 b   x1 x2 v) (hQ : gqTIV Q (f_X1_removeTreaty_49 b  x1 x2 v)) : gG E m_X1_removeTreaty d Q 0 0 (rS v) 49 [(0, .ref (gX E + b)), (1, .int x1), (2, .int x2)] [] := by
  refine g_aload_n 0 dX1_removeTreaty_49 rfl ?_
  refine r_get (.ref (gX E + (b + 10))) f_X1_21_X1 rfl (kbz hb) (lt_b0 hb) dX1_removeTreaty_50 (fun _ => rfl) ?_
  refine g_iload_n 1 dX1_removeTreaty_53 rfl ?_
  obtain ⟨h8, hp⟩ := hp
  refine g_callV (rest := []) s_X1_142_X2 rfl (c_X2_forgetTreaty (E := E) (d := d - 1) b hb (by omega) x1 v h8) (kb_10 hb) (lt_b hb (by decide)) rfl rfl (Nat.le_of_ble_eq_true rfl) (by omega) (by decide) (by decide) dX1_removeTreaty_54 (adN ?_) axN
  refine g_lv (lv' := [(2, .int x2)]) [2] rfl ?_
  exact w_X1_removeTreaty_57 b hb hd    x2 (f_X2_forgetTreaty b x1 v) hp hQ
def f_X1_removeTreaty_18 (b : Nat) (x1 : Int32) (s0 : Int32) (v : gV) : (Int32 ⊕ String) × gV := if (f_X2_coinsOf b x1 v) ≤ 0 then (f_X1_removeTreaty_49 b  x1 (v.1 (b + 33) s0.toNatClampNeg) (f_X8_remove b x1 v)) else ((Sum.inr "java/lang/IllegalStateException", v))
def p_X1_removeTreaty_18 (b : Nat) (x1 : Int32) (s0 : Int32) (v : gV) : Prop := (vp_in s0 4) ∧ ((p_X2_coinsOf b x1 v) ∧ ((((f_X2_coinsOf b x1 v) ≤ 0) → ((p_X8_remove b x1 v) ∧ (p_X1_removeTreaty_49 b   x1 (v.1 (b + 33) s0.toNatClampNeg) (f_X8_remove b x1 v)))) ∧ (¬ ((f_X2_coinsOf b x1 v) ≤ 0) → (True))))
set_option maxHeartbeats 4000000 in
set_option maxRecDepth 100000 in
theorem w_X1_removeTreaty_18 {E : gE} {d : Nat} {Q : gO → gS → Prop} (b : Nat) (hb : isBk b) (hd : 8 ≤ d) (x1 : Int32) (s0 : Int32) (v : gV) (hp : p_X1_removeTreaty_18 b   x1 s0 v) (hQ : gqTIV Q (f_X1_removeTreaty_18 b  x1 s0 v)) : gG E m_X1_removeTreaty d Q 1 6 (rS v) 18 [(0, .ref (gX E + b)), (1, .int x1)] [.int s0, .ref (gX E + (b + 33))] := by
  obtain ⟨h4, hp⟩ := hp
  refine g_iald (kb_33 hb) (lt_b hb (by decide)) h4 dX1_removeTreaty_18 ?_
  refine g_istore_n [(2, .int (v.1 (b + 33) s0.toNatClampNeg)), (0, .ref (gX E + b)), (1, .int x1)] dX1_removeTreaty_19 rfl (by decide) rfl ?_
  refine g_aload_n 1 dX1_removeTreaty_20 rfl ?_
  refine r_get (.ref (gX E + (b + 10))) f_X1_21_X1 rfl (kbz hb) (lt_b0 hb) dX1_removeTreaty_21 (fun _ => rfl) ?_
  refine g_iload_n 2 dX1_removeTreaty_24 rfl ?_
  obtain ⟨h5, hp⟩ := hp
  refine g_callV (rest := []) s_X1_136_X2 rfl (c_X2_coinsOf (E := E) (d := d - 1) b hb (by omega) x1 v h5) (kb_10 hb) (lt_b hb (by decide)) rfl rfl (Nat.le_of_ble_eq_true rfl) (by omega) (by decide) (by decide) dX1_removeTreaty_25 (adV ?_) axN
  refine g_if_le 41 dX1_removeTreaty_28 (by decide) (fun h6 => ?_) (fun h6 => ?_)
  · have hQ := qp (P := gqTIV Q) h6 hQ
    have hp := hp.1 h6
    refine g_aload_n 1 dX1_removeTreaty_41 rfl ?_
    refine r_get (.ref (gX E + (b + 30))) f_X1_28_X1 rfl (kbz hb) (lt_b0 hb) dX1_removeTreaty_42 (fun _ => rfl) ?_
    refine g_iload_n 2 dX1_removeTreaty_45 rfl ?_
    obtain ⟨h7, hp⟩ := hp
    refine g_callV (rest := []) s_X1_141_X8 rfl (c_X8_remove (E := E) (d := d - 1) b hb (by omega) x1 v h7) (kb_30 hb) (lt_b hb (by decide)) rfl rfl (Nat.le_of_ble_eq_true rfl) (by omega) (by decide) (by decide) dX1_removeTreaty_46 (adN ?_) axN
    refine g_room (k' := 0) (n' := 0) (by decide) (by decide) ?_
    refine g_lv (lv' := [(0, .ref (gX E + b)), (1, .int x1), (2, .int (v.1 (b + 33) s0.toNatClampNeg))]) [1, 2, 0] rfl ?_
    exact w_X1_removeTreaty_49 b hb hd    x1 (v.1 (b + 33) s0.toNatClampNeg) (f_X8_remove b x1 v) hp hQ
  · have hQ := qn (P := gqTIV Q) h6 hQ
    have hp := hp.2 h6
    exact g_throwS rfl t_X1_108_139 rfl rfl rfl (by omega) (by decide) (by decide) (Nat.le_of_ble_eq_true rfl) dX1_removeTreaty_31 dX1_removeTreaty_34 dX1_removeTreaty_35 dX1_removeTreaty_37 dX1_removeTreaty_40 hQ
def f_X1_removeTreaty_0 (b : Nat) (x1 : Int32) (v : gV) : (Int32 ⊕ String) × gV := Sum.elim (fun (sr2 : Int32) => f_X1_removeTreaty_18 b  x1 sr2 v) (fun (e : String) => (Sum.inr e, v)) (f_X11_checkedIndex x1 (v.1 (b + 30) 6) v)
def p_X1_removeTreaty_0 (b : Nat) (x1 : Int32) (v : gV) : Prop := (p_X11_checkedIndex x1 (v.1 (b + 30) 6) v) ∧ (∀ (sr2 : Int32), (f_X11_checkedIndex x1 (v.1 (b + 30) 6) v) = Sum.inl sr2 → (p_X1_removeTreaty_18 b   x1 sr2 v))
set_option maxHeartbeats 4000000 in
set_option maxRecDepth 100000 in
theorem w_X1_removeTreaty_0 {E : gE} {d : Nat} {Q : gO → gS → Prop} (b : Nat) (hb : isBk b) (hd : 8 ≤ d) (x1 : Int32) (v : gV) (hp : p_X1_removeTreaty_0 b   x1 v) (hQ : gqTIV Q (f_X1_removeTreaty_0 b  x1 v)) : gG E m_X1_removeTreaty d Q 2 12 (rS v) 0 [(0, .ref (gX E + b)), (1, .int x1)] [] := by
  refine g_aload_n 0 dX1_removeTreaty_0 rfl ?_
  refine r_get (.ref (gX E + (b + 30))) f_X1_28_X1 rfl (kbz hb) (lt_b0 hb) dX1_removeTreaty_1 (fun _ => rfl) ?_
  refine r_get (.ref (gX E + (b + 33))) f_X1_129_X8 rfl (kb_30 hb) (lt_b hb (by decide)) dX1_removeTreaty_4 (fun _ => rfl) ?_
  refine g_iload_n 1 dX1_removeTreaty_7 rfl ?_
  refine g_aload_n 0 dX1_removeTreaty_8 rfl ?_
  refine r_get (.ref (gX E + (b + 30))) f_X1_28_X1 rfl (kbz hb) (lt_b0 hb) dX1_removeTreaty_9 (fun _ => rfl) ?_
  refine r_get (.int (v.1 (b + 30) 6)) f_X1_132_X8 rfl (kb_30 hb) (lt_b hb (by decide)) dX1_removeTreaty_12 (fun _ => rfl) ?_
  obtain ⟨h1, hp⟩ := hp
  refine g_callN (rest := [.ref (gX E + (b + 33))]) s_X1_133 rfl (c_X11_checkedIndex (E := E) (d := d - 1)   (by omega) x1 (v.1 (b + 30) 6) v h1) rfl rfl (Nat.le_of_ble_eq_true rfl) (by omega) (by decide) (by decide) dX1_removeTreaty_15 (adTI (fun sr2 h3 => ?_)) (axTI (fun e h3 => g_outs rfl rfl (qe (P := gqTIV Q) h3 hQ)))
  have hQ := ql (P := gqTIV Q) h3 hQ
  have hp := hp sr2 h3
  exact w_X1_removeTreaty_18 b hb hd    x1 sr2 v hp hQ
def f_X1_removeTreaty (b : Nat) (x1 : Int32) (v : gV) : (Int32 ⊕ String) × gV := f_X1_removeTreaty_0 b x1 v
def p_X1_removeTreaty (b : Nat) (x1 : Int32) (v : gV) : Prop := p_X1_removeTreaty_0 b x1 v
theorem c_X1_removeTreaty {E : gE} {d : Nat} (b : Nat) (hb : isBk b) (hd : 8 ≤ d) (x1 : Int32) (v : gV) (hp : p_X1_removeTreaty b x1 v) : CT E m_X1_removeTreaty d 2 12 [.ref (gX E + b), .int x1] (rS v) (Cq (gOi (f_X1_removeTreaty b x1 v).1) (f_X1_removeTreaty b x1 v).2) := CT.of ok_X1_removeTreaty rfl (Nat.le_of_ble_eq_true rfl) (w_X1_removeTreaty_0 b hb hd x1 v hp ⟨rfl, rfl⟩)
def f_X1_payPart_130 (b : Nat) (x5 : Int32) (v : gV) : (Int32 ⊕ String) × gV := (Sum.inl x5, v)
def p_X1_payPart_130 (b : Nat) (x5 : Int32) (v : gV) : Prop := True
set_option maxHeartbeats 4000000 in
set_option maxRecDepth 100000 in
theorem w_X1_payPart_130 {E : gE} {d : Nat} {Q : gO → gS → Prop} (b : Nat) (hb : isBk b) (hd : 8 ≤ d) (x5 : Int32) (v : gV) (hp : p_X1_payPart_130 b   x5 v) (hQ : gqTIV Q (f_X1_payPart_130 b  x5 v)) : gG E m_X1_payPart d Q 0 0 (rS v) 130 [(5, .int x5)] [] := by
  refine g_iload 0 dX1_payPart_130 rfl ?_
  exact g_iret rfl dX1_payPart_132 hQ
def f_X1_payPart_117 (b : Nat) (x2 : Int32) (x5 : Int32) (v : gV) : (Int32 ⊕ String) × gV := f_X1_payPart_130 b  x5 (vM v b 6 ((v.1 b 6) + (x5 - x2)))
def p_X1_payPart_117 (b : Nat) (x2 : Int32) (x5 : Int32) (v : gV) : Prop := p_X1_payPart_130 b   x5 (vM v b 6 ((v.1 b 6) + (x5 - x2)))
set_option maxHeartbeats 4000000 in
set_option maxRecDepth 100000 in
theorem w_X1_payPart_117 {E : gE} {d : Nat} {Q : gO → gS → Prop} (b : Nat) (hb : isBk b) (hd : 8 ≤ d) (x2 : Int32) (x5 : Int32) (v : gV) (hp : p_X1_payPart_117 b   x2 x5 v) (hQ : gqTIV Q (f_X1_payPart_117 b  x2 x5 v)) : gG E m_X1_payPart d Q 0 0 (rS v) 117 [(0, .ref (gX E + b)), (2, .int x2), (5, .int x5)] [] := by
  refine g_aload_n 0 dX1_payPart_117 rfl ?_
  refine g_dup dX1_payPart_118 rfl ?_
  refine r_get (.int (v.1 b 6)) f_X1_66_X1 rfl (kbz hb) (lt_b0 hb) dX1_payPart_119 (fun _ => rfl) ?_
  refine g_iload 2 dX1_payPart_122 rfl ?_
  refine g_iload_n 1 dX1_payPart_124 rfl ?_
  refine g_isub dX1_payPart_125 ?_
  refine g_iadd dX1_payPart_126 ?_
  refine r_put pf_X1_66_X1 rfl (kbz hb) (by decide) (by decide) rfl (lt_b0 hb) rfl rfl dX1_payPart_127 ?_
  refine g_lv (lv' := [(5, .int x5)]) [2] rfl ?_
  exact w_X1_payPart_130 b hb hd    x5 (vM v b 6 ((v.1 b 6) + (x5 - x2))) hp hQ
def f_X1_payPart_106 (b : Nat) (x2 : Int32) (x5 : Int32) (v : gV) : (Int32 ⊕ String) × gV := f_X1_payPart_117 b  x2 x5 (vM v b 11 ((v.1 b 11) + x5))
def p_X1_payPart_106 (b : Nat) (x2 : Int32) (x5 : Int32) (v : gV) : Prop := p_X1_payPart_117 b   x2 x5 (vM v b 11 ((v.1 b 11) + x5))
set_option maxHeartbeats 4000000 in
set_option maxRecDepth 100000 in
theorem w_X1_payPart_106 {E : gE} {d : Nat} {Q : gO → gS → Prop} (b : Nat) (hb : isBk b) (hd : 8 ≤ d) (x2 : Int32) (x5 : Int32) (v : gV) (hp : p_X1_payPart_106 b   x2 x5 v) (hQ : gqTIV Q (f_X1_payPart_106 b  x2 x5 v)) : gG E m_X1_payPart d Q 0 0 (rS v) 106 [(0, .ref (gX E + b)), (2, .int x2), (5, .int x5)] [] := by
  refine g_aload_n 0 dX1_payPart_106 rfl ?_
  refine g_dup dX1_payPart_107 rfl ?_
  refine r_get (.int (v.1 b 11)) f_X1_81_X1 rfl (kbz hb) (lt_b0 hb) dX1_payPart_108 (fun _ => rfl) ?_
  refine g_iload 2 dX1_payPart_111 rfl ?_
  refine g_iadd dX1_payPart_113 ?_
  refine r_put pf_X1_81_X1 rfl (kbz hb) (by decide) (by decide) rfl (lt_b0 hb) rfl rfl dX1_payPart_114 ?_
  exact w_X1_payPart_117 b hb hd    x2 x5 (vM v b 11 ((v.1 b 11) + x5)) hp hQ
def f_X1_payPart_96 (b : Nat) (x2 : Int32) (x5 : Int32) (v : gV) : (Int32 ⊕ String) × gV := f_X1_payPart_106 b  x2 x5 (vM v b 10 ((v.1 b 10) + x2))
def p_X1_payPart_96 (b : Nat) (x2 : Int32) (x5 : Int32) (v : gV) : Prop := p_X1_payPart_106 b   x2 x5 (vM v b 10 ((v.1 b 10) + x2))
set_option maxHeartbeats 4000000 in
set_option maxRecDepth 100000 in
theorem w_X1_payPart_96 {E : gE} {d : Nat} {Q : gO → gS → Prop} (b : Nat) (hb : isBk b) (hd : 8 ≤ d) (x2 : Int32) (x5 : Int32) (v : gV) (hp : p_X1_payPart_96 b   x2 x5 v) (hQ : gqTIV Q (f_X1_payPart_96 b  x2 x5 v)) : gG E m_X1_payPart d Q 0 0 (rS v) 96 [(0, .ref (gX E + b)), (2, .int x2), (5, .int x5)] [] := by
  refine g_aload_n 0 dX1_payPart_96 rfl ?_
  refine g_dup dX1_payPart_97 rfl ?_
  refine r_get (.int (v.1 b 10)) f_X1_78_X1 rfl (kbz hb) (lt_b0 hb) dX1_payPart_98 (fun _ => rfl) ?_
  refine g_iload_n 1 dX1_payPart_101 rfl ?_
  refine g_iadd dX1_payPart_102 ?_
  refine r_put pf_X1_78_X1 rfl (kbz hb) (by decide) (by decide) rfl (lt_b0 hb) rfl rfl dX1_payPart_103 ?_
  exact w_X1_payPart_106 b hb hd    x2 x5 (vM v b 10 ((v.1 b 10) + x2)) hp hQ
def f_X1_payPart_62 (b : Nat) (x2 : Int32) (x3 : Int32) (x4 : Int32) (v : gV) : (Int32 ⊕ String) × gV := f_X1_payPart_96 b  x2 ((f_X2_recoveredAt b x3 v) - x4) (f_X9_add b (v.1 (b + 16) x3.toNatClampNeg) (v.1 b 5) x2 v)
def p_X1_payPart_62 (b : Nat) (x2 : Int32) (x3 : Int32) (x4 : Int32) (v : gV) : Prop := (p_X2_recoveredAt b x3 v) ∧ ((vp_in x3 12) ∧ ((p_X9_add b (v.1 (b + 16) x3.toNatClampNeg) (v.1 b 5) x2 v) ∧ (p_X1_payPart_96 b   x2 ((f_X2_recoveredAt b x3 v) - x4) (f_X9_add b (v.1 (b + 16) x3.toNatClampNeg) (v.1 b 5) x2 v))))
set_option maxHeartbeats 4000000 in
set_option maxRecDepth 100000 in
theorem w_X1_payPart_62 {E : gE} {d : Nat} {Q : gO → gS → Prop} (b : Nat) (hb : isBk b) (hd : 8 ≤ d) (x2 : Int32) (x3 : Int32) (x4 : Int32) (v : gV) (hp : p_X1_payPart_62 b   x2 x3 x4 v) (hQ : gqTIV Q (f_X1_payPart_62 b  x2 x3 x4 v)) : gG E m_X1_payPart d Q 0 0 (rS v) 62 [(0, .ref (gX E + b)), (2, .int x2), (3, .int x3), (4, .int x4)] [] := by
  refine g_aload_n 0 dX1_payPart_62 rfl ?_
  refine r_get (.ref (gX E + (b + 10))) f_X1_21_X1 rfl (kbz hb) (lt_b0 hb) dX1_payPart_63 (fun _ => rfl) ?_
  refine g_iload_n 2 dX1_payPart_66 rfl ?_
  obtain ⟨h12, hp⟩ := hp
  refine g_callV (rest := []) s_X1_198_X2 rfl (c_X2_recoveredAt (E := E) (d := d - 1) b hb (by omega) x3 v h12) (kb_10 hb) (lt_b hb (by decide)) rfl rfl (Nat.le_of_ble_eq_true rfl) (by omega) (by decide) (by decide) dX1_payPart_67 (adV ?_) axN
  refine g_iload 3 dX1_payPart_70 rfl ?_
  refine g_isub dX1_payPart_72 ?_
  refine g_istore [(5, .int ((f_X2_recoveredAt b x3 v) - x4)), (0, .ref (gX E + b)), (2, .int x2), (3, .int x3), (4, .int x4)] dX1_payPart_73 (by decide) rfl ?_
  refine g_aload_n 1 dX1_payPart_75 rfl ?_
  refine r_get (.ref (gX E + (b + 37))) f_X1_35_X1 rfl (kbz hb) (lt_b0 hb) dX1_payPart_76 (fun _ => rfl) ?_
  refine g_aload_n 1 dX1_payPart_79 rfl ?_
  refine r_get (.ref (gX E + (b + 10))) f_X1_21_X1 rfl (kbz hb) (lt_b0 hb) dX1_payPart_80 (fun _ => rfl) ?_
  refine r_get (.ref (gX E + (b + 16))) f_X1_204_X2 rfl (kb_10 hb) (lt_b hb (by decide)) dX1_payPart_83 (fun _ => rfl) ?_
  refine g_iload_n 3 dX1_payPart_86 rfl ?_
  obtain ⟨h13, hp⟩ := hp
  refine g_iald (kb_16 hb) (lt_b hb (by decide)) h13 dX1_payPart_87 ?_
  refine g_aload_n 1 dX1_payPart_88 rfl ?_
  refine r_get (.int (v.1 b 5)) f_X1_62_X1 rfl (kbz hb) (lt_b0 hb) dX1_payPart_89 (fun _ => rfl) ?_
  refine g_iload_n 2 dX1_payPart_92 rfl ?_
  obtain ⟨h14, hp⟩ := hp
  refine g_callV (rest := []) s_X1_207_X9 rfl (c_X9_add (E := E) (d := d - 1) b hb (by omega) (v.1 (b + 16) x3.toNatClampNeg) (v.1 b 5) x2 v h14) (kb_37 hb) (lt_b hb (by decide)) rfl rfl (Nat.le_of_ble_eq_true rfl) (by omega) (by decide) (by decide) dX1_payPart_93 (adN ?_) axN
  refine g_lv (lv' := [(0, .ref (gX E + b)), (2, .int x2), (5, .int ((f_X2_recoveredAt b x3 v) - x4))]) [1, 2, 0] rfl ?_
  exact w_X1_payPart_96 b hb hd    x2 ((f_X2_recoveredAt b x3 v) - x4) (f_X9_add b (v.1 (b + 16) x3.toNatClampNeg) (v.1 b 5) x2 v) hp hQ
def f_X1_payPart_16 (b : Nat) (x2 : Int32) (x3 : Int32) (s0 : Int32) (v : gV) : (Int32 ⊕ String) × gV := if x2 ≤ (f_X2_unpaidAt b x3 v) then (f_X1_payPart_62 b  x2 x3 (f_X2_recoveredAt b x3 v) (vM v (b + 15) x3.toNatClampNeg ((v.1 (b + 15) x3.toNatClampNeg) + x2))) else ((Sum.inr "java/lang/IllegalStateException", v))
def p_X1_payPart_16 (b : Nat) (x2 : Int32) (x3 : Int32) (s0 : Int32) (v : gV) : Prop := (p_X2_unpaidAt b x3 v) ∧ (((x2 ≤ (f_X2_unpaidAt b x3 v)) → ((p_X2_recoveredAt b x3 v) ∧ ((vp_in x3 12) ∧ ((vp_in x3 12) ∧ (p_X1_payPart_62 b   x2 x3 (f_X2_recoveredAt b x3 v) (vM v (b + 15) x3.toNatClampNeg ((v.1 (b + 15) x3.toNatClampNeg) + x2))))))) ∧ (¬ (x2 ≤ (f_X2_unpaidAt b x3 v)) → (True)))
set_option maxHeartbeats 4000000 in
set_option maxRecDepth 100000 in
theorem w_X1_payPart_16 {E : gE} {d : Nat} {Q : gO → gS → Prop} (b : Nat) (hb : isBk b) (hd : 8 ≤ d) (x2 : Int32) (x3 : Int32) (s0 : Int32) (v : gV) (hp : p_X1_payPart_16 b   x2 x3 s0 v) (hQ : gqTIV Q (f_X1_payPart_16 b  x2 x3 s0 v)) : gG E m_X1_payPart d Q 1 6 (rS v) 16 [(0, .ref (gX E + b)), (2, .int x2), (3, .int x3)] [.int s0] := by
  refine g_pop dX1_payPart_16 rfl ?_
  refine g_iload_n 1 dX1_payPart_17 rfl ?_
  refine g_aload_n 0 dX1_payPart_18 rfl ?_
  refine r_get (.ref (gX E + (b + 10))) f_X1_21_X1 rfl (kbz hb) (lt_b0 hb) dX1_payPart_19 (fun _ => rfl) ?_
  refine g_iload_n 2 dX1_payPart_22 rfl ?_
  obtain ⟨h7, hp⟩ := hp
  refine g_callV (rest := [.int x2]) s_X1_193_X2 rfl (c_X2_unpaidAt (E := E) (d := d - 1) b hb (by omega) x3 v h7) (kb_10 hb) (lt_b hb (by decide)) rfl rfl (Nat.le_of_ble_eq_true rfl) (by omega) (by decide) (by decide) dX1_payPart_23 (adV ?_) axN
  refine g_icmp_le 39 dX1_payPart_26 (by decide) (fun h8 => ?_) (fun h8 => ?_)
  · have hQ := qp (P := gqTIV Q) h8 hQ
    have hp := hp.1 h8
    refine g_aload_n 0 dX1_payPart_39 rfl ?_
    refine r_get (.ref (gX E + (b + 10))) f_X1_21_X1 rfl (kbz hb) (lt_b0 hb) dX1_payPart_40 (fun _ => rfl) ?_
    refine g_iload_n 2 dX1_payPart_43 rfl ?_
    obtain ⟨h9, hp⟩ := hp
    refine g_callV (rest := []) s_X1_198_X2 rfl (c_X2_recoveredAt (E := E) (d := d - 1) b hb (by omega) x3 v h9) (kb_10 hb) (lt_b hb (by decide)) rfl rfl (Nat.le_of_ble_eq_true rfl) (by omega) (by decide) (by decide) dX1_payPart_44 (adV ?_) axN
    refine g_istore [(4, .int ((f_X2_recoveredAt b x3 v))), (0, .ref (gX E + b)), (2, .int x2), (3, .int x3)] dX1_payPart_47 (by decide) rfl ?_
    refine g_aload_n 1 dX1_payPart_49 rfl ?_
    refine r_get (.ref (gX E + (b + 10))) f_X1_21_X1 rfl (kbz hb) (lt_b0 hb) dX1_payPart_50 (fun _ => rfl) ?_
    refine r_get (.ref (gX E + (b + 15))) f_X1_201_X2 rfl (kb_10 hb) (lt_b hb (by decide)) dX1_payPart_53 (fun _ => rfl) ?_
    refine g_iload_n 3 dX1_payPart_56 rfl ?_
    refine g_dup2 dX1_payPart_57 rfl rfl ?_
    obtain ⟨h10, hp⟩ := hp
    refine g_iald (kb_15 hb) (lt_b hb (by decide)) h10 dX1_payPart_58 ?_
    refine g_iload_n 2 dX1_payPart_59 rfl ?_
    refine g_iadd dX1_payPart_60 ?_
    obtain ⟨h11, hp⟩ := hp
    refine r_iast (kb_15 hb) (lt_b hb (by decide)) h11 dX1_payPart_61 ?_
    refine g_room (k' := 0) (n' := 0) (by decide) (by decide) ?_
    refine g_lv (lv' := [(0, .ref (gX E + b)), (2, .int x2), (3, .int x3), (4, .int ((f_X2_recoveredAt b x3 v)))]) [1, 2, 3, 0] rfl ?_
    exact w_X1_payPart_62 b hb hd    x2 x3 (f_X2_recoveredAt b x3 v) (vM v (b + 15) x3.toNatClampNeg ((v.1 (b + 15) x3.toNatClampNeg) + x2)) hp hQ
  · have hQ := qn (P := gqTIV Q) h8 hQ
    have hp := hp.2 h8
    exact g_throwS rfl t_X1_108_196 rfl rfl rfl (by omega) (by decide) (by decide) (Nat.le_of_ble_eq_true rfl) dX1_payPart_29 dX1_payPart_32 dX1_payPart_33 dX1_payPart_35 dX1_payPart_38 hQ
def f_X1_payPart_8 (b : Nat) (x2 : Int32) (s0 : Int32) (v : gV) : (Int32 ⊕ String) × gV := Sum.elim (fun (sr5 : Int32) => f_X1_payPart_16 b  x2 s0 sr5 v) (fun (e : String) => (Sum.inr e, v)) (f_X11_checkedNumber x2 (1 : Int32) (99 : Int32) v)
def p_X1_payPart_8 (b : Nat) (x2 : Int32) (s0 : Int32) (v : gV) : Prop := (p_X11_checkedNumber x2 (1 : Int32) (99 : Int32) v) ∧ (∀ (sr5 : Int32), (f_X11_checkedNumber x2 (1 : Int32) (99 : Int32) v) = Sum.inl sr5 → (p_X1_payPart_16 b   x2 s0 sr5 v))
set_option maxHeartbeats 4000000 in
set_option maxRecDepth 100000 in
theorem w_X1_payPart_8 {E : gE} {d : Nat} {Q : gO → gS → Prop} (b : Nat) (hb : isBk b) (hd : 8 ≤ d) (x2 : Int32) (s0 : Int32) (v : gV) (hp : p_X1_payPart_8 b   x2 s0 v) (hQ : gqTIV Q (f_X1_payPart_8 b  x2 s0 v)) : gG E m_X1_payPart d Q 2 12 (rS v) 8 [(0, .ref (gX E + b)), (2, .int x2)] [.int s0] := by
  refine g_istore_n [(3, .int s0), (0, .ref (gX E + b)), (2, .int x2)] dX1_payPart_8 rfl (by decide) rfl ?_
  refine g_iload_n 2 dX1_payPart_9 rfl ?_
  refine g_iconst dX1_payPart_10 (1 : Int32) (by decide) ?_
  refine g_bipush dX1_payPart_11 (99 : Int32) (by decide) ?_
  obtain ⟨h4, hp⟩ := hp
  refine g_callN (rest := []) s_X1_123 rfl (c_X11_checkedNumber (E := E) (d := d - 1)   (by omega) x2 (1 : Int32) (99 : Int32) v h4) rfl rfl (Nat.le_of_ble_eq_true rfl) (by omega) (by decide) (by decide) dX1_payPart_13 (adTI (fun sr5 h6 => ?_)) (axTI (fun e h6 => g_outs rfl rfl (qe (P := gqTIV Q) h6 hQ)))
  have hQ := ql (P := gqTIV Q) h6 hQ
  have hp := hp sr5 h6
  refine g_lv (lv' := [(0, .ref (gX E + b)), (2, .int x2), (3, .int s0)]) [1, 2, 0] rfl ?_
  exact w_X1_payPart_16 b hb hd    x2 s0 sr5 v hp hQ
def f_X1_payPart_0 (b : Nat) (x1 : Int32) (x2 : Int32) (v : gV) : (Int32 ⊕ String) × gV := Sum.elim (fun (sr2 : Int32) => f_X1_payPart_8 b  x2 sr2 v) (fun (e : String) => (Sum.inr e, v)) (f_X6_placeOf_C b x1 v)
def p_X1_payPart_0 (b : Nat) (x1 : Int32) (x2 : Int32) (v : gV) : Prop := (p_X6_placeOf_C b x1 v) ∧ (∀ (sr2 : Int32), (f_X6_placeOf_C b x1 v) = Sum.inl sr2 → (p_X1_payPart_8 b   x2 sr2 v))
set_option maxHeartbeats 4000000 in
set_option maxRecDepth 100000 in
theorem w_X1_payPart_0 {E : gE} {d : Nat} {Q : gO → gS → Prop} (b : Nat) (hb : isBk b) (hd : 8 ≤ d) (x1 : Int32) (x2 : Int32) (v : gV) (hp : p_X1_payPart_0 b   x1 x2 v) (hQ : gqTIV Q (f_X1_payPart_0 b  x1 x2 v)) : gG E m_X1_payPart d Q 3 18 (rS v) 0 [(0, .ref (gX E + b)), (1, .int x1), (2, .int x2)] [] := by
  refine g_aload_n 0 dX1_payPart_0 rfl ?_
  refine r_get (.ref (gX E + (b + 10))) f_X1_21_X1 rfl (kbz hb) (lt_b0 hb) dX1_payPart_1 (fun _ => rfl) ?_
  refine g_iload_n 1 dX1_payPart_4 rfl ?_
  obtain ⟨h1, hp⟩ := hp
  refine g_callU (rest := []) s_X1_192_X2 rfl (c_X6_placeOf_C (E := E) (d := d - 1) b hb (by omega) x1 v h1) (kb_10 hb) (lt_b hb (by decide)) rfl rfl (Nat.le_of_ble_eq_true rfl) (by omega) (by decide) (by decide) dX1_payPart_5 (adTI (fun sr2 h3 => ?_)) (axTI (fun e h3 => g_outs rfl rfl (qe (P := gqTIV Q) h3 hQ)))
  have hQ := ql (P := gqTIV Q) h3 hQ
  have hp := hp sr2 h3
  refine g_lv (lv' := [(0, .ref (gX E + b)), (2, .int x2)]) [0, 2] rfl ?_
  exact w_X1_payPart_8 b hb hd    x2 sr2 v hp hQ
def f_X1_payPart (b : Nat) (x1 : Int32) (x2 : Int32) (v : gV) : (Int32 ⊕ String) × gV := f_X1_payPart_0 b x1 x2 v
def p_X1_payPart (b : Nat) (x1 : Int32) (x2 : Int32) (v : gV) : Prop := p_X1_payPart_0 b x1 x2 v
theorem c_X1_payPart {E : gE} {d : Nat} (b : Nat) (hb : isBk b) (hd : 8 ≤ d) (x1 : Int32) (x2 : Int32) (v : gV) (hp : p_X1_payPart b x1 x2 v) : CT E m_X1_payPart d 3 18 [.ref (gX E + b), .int x1, .int x2] (rS v) (Cq (gOi (f_X1_payPart b x1 x2 v).1) (f_X1_payPart b x1 x2 v).2) := CT.of ok_X1_payPart rfl (Nat.le_of_ble_eq_true rfl) (w_X1_payPart_0 b hb hd x1 x2 v hp ⟨rfl, rfl⟩)
def f_X1_outcomesAgree_47 (b : Nat) (s0 : Int32) (v : gV) : Int32 × gV := (s0, v)
def p_X1_outcomesAgree_47 (b : Nat) (s0 : Int32) (v : gV) : Prop := (s0 = 0 ∨ s0 = 1) ∧ (True)
set_option maxHeartbeats 4000000 in
set_option maxRecDepth 100000 in
theorem w_X1_outcomesAgree_47 {E : gE} {d : Nat} {Q : gO → gS → Prop} (b : Nat) (hb : isBk b) (hd : 3 ≤ d) (s0 : Int32) (v : gV) (hp : p_X1_outcomesAgree_47 b   s0 v) (hQ : gqIV Q (f_X1_outcomesAgree_47 b  s0 v)) : gG E m_X1_outcomesAgree d Q 0 0 (rS v) 47 [] [.int s0] := by
  obtain ⟨h5, hp⟩ := hp
  exact g_zret rfl (nz h5) dX1_outcomesAgree_47 hQ
def f_X1_outcomesAgree_26 (b : Nat) (x1 : Int32) (s0 : Int64) (v : gV) : Int32 × gV := if (lg_cmp s0 (f_X5_countBySets b x1 (v.1 b 5) v)) = 0 then (f_X1_outcomesAgree_47 b  (1 : Int32) v) else (f_X1_outcomesAgree_47 b  (0 : Int32) v)
def p_X1_outcomesAgree_26 (b : Nat) (x1 : Int32) (s0 : Int64) (v : gV) : Prop := (p_X5_countBySets b x1 (v.1 b 5) v) ∧ ((((lg_cmp s0 (f_X5_countBySets b x1 (v.1 b 5) v)) = 0) → (p_X1_outcomesAgree_47 b   (1 : Int32) v)) ∧ (¬ ((lg_cmp s0 (f_X5_countBySets b x1 (v.1 b 5) v)) = 0) → (p_X1_outcomesAgree_47 b   (0 : Int32) v)))
set_option maxHeartbeats 4000000 in
set_option maxRecDepth 100000 in
theorem w_X1_outcomesAgree_26 {E : gE} {d : Nat} {Q : gO → gS → Prop} (b : Nat) (hb : isBk b) (hd : 3 ≤ d) (x1 : Int32) (s0 : Int64) (v : gV) (hp : p_X1_outcomesAgree_26 b   x1 s0 v) (hQ : gqIV Q (f_X1_outcomesAgree_26 b  x1 s0 v)) : gG E m_X1_outcomesAgree d Q 0 0 (rS v) 26 [(0, .ref (gX E + b)), (1, .int x1)] [.long s0] := by
  refine g_aload_n 0 dX1_outcomesAgree_26 rfl ?_
  refine r_get (.ref (gX E + (b + 1))) f_X1_12_X1 rfl (kbz hb) (lt_b0 hb) dX1_outcomesAgree_27 (fun _ => rfl) ?_
  refine g_iload_n 1 dX1_outcomesAgree_30 rfl ?_
  refine g_aload_n 0 dX1_outcomesAgree_31 rfl ?_
  refine r_get (.int (v.1 b 5)) f_X1_62_X1 rfl (kbz hb) (lt_b0 hb) dX1_outcomesAgree_32 (fun _ => rfl) ?_
  obtain ⟨h3, hp⟩ := hp
  refine g_callV (rest := [.long s0]) s_X1_238_X5 rfl (c_X5_countBySets (E := E) (d := d - 1) b hb (by omega) x1 (v.1 b 5) v h3) (kb_1 hb) (lt_b hb (by decide)) rfl rfl (Nat.le_of_ble_eq_true rfl) (by omega) (by decide) (by decide) dX1_outcomesAgree_35 (adV ?_) axN
  refine g_lcmp dX1_outcomesAgree_38 ?_
  refine g_if_ne 46 dX1_outcomesAgree_39 (by decide) (fun h4 => ?_) (fun h4 => ?_)
  · have hQ := qn (P := gqIV Q) h4 hQ
    have hp := hp.2 h4
    refine g_iconst dX1_outcomesAgree_46 (0 : Int32) (by decide) ?_
    refine g_lv (lv' := []) [] rfl ?_
    exact w_X1_outcomesAgree_47 b hb hd    (0 : Int32) v hp hQ
  · have hQ := qp (P := gqIV Q) h4 hQ
    have hp := hp.1 h4
    refine g_iconst dX1_outcomesAgree_42 (1 : Int32) (by decide) ?_
    refine g_goto 47 dX1_outcomesAgree_43 (by decide) ?_
    refine g_lv (lv' := []) [] rfl ?_
    exact w_X1_outcomesAgree_47 b hb hd    (1 : Int32) v hp hQ
def f_X1_outcomesAgree_0 (b : Nat)  (v : gV) : Int32 × gV := f_X1_outcomesAgree_26 b  ((f_X5_mostLoss b (v.1 b 5) v) / (2 : Int32)) ((f_X5_countByTable b ((f_X5_mostLoss b (v.1 b 5) v) / (2 : Int32)) (v.1 b 5) v).1) (f_X5_countByTable b ((f_X5_mostLoss b (v.1 b 5) v) / (2 : Int32)) (v.1 b 5) v).2
def p_X1_outcomesAgree_0 (b : Nat)  (v : gV) : Prop := (p_X5_mostLoss b (v.1 b 5) v) ∧ ((p_X5_countByTable b ((f_X5_mostLoss b (v.1 b 5) v) / (2 : Int32)) (v.1 b 5) v) ∧ (p_X1_outcomesAgree_26 b   ((f_X5_mostLoss b (v.1 b 5) v) / (2 : Int32)) ((f_X5_countByTable b ((f_X5_mostLoss b (v.1 b 5) v) / (2 : Int32)) (v.1 b 5) v).1) (f_X5_countByTable b ((f_X5_mostLoss b (v.1 b 5) v) / (2 : Int32)) (v.1 b 5) v).2))
set_option maxHeartbeats 4000000 in
set_option maxRecDepth 100000 in
theorem w_X1_outcomesAgree_0 {E : gE} {d : Nat} {Q : gO → gS → Prop} (b : Nat) (hb : isBk b) (hd : 3 ≤ d)  (v : gV) (hp : p_X1_outcomesAgree_0 b    v) (hQ : gqIV Q (f_X1_outcomesAgree_0 b   v)) : gG E m_X1_outcomesAgree d Q 0 0 (rS v) 0 [(0, .ref (gX E + b))] [] := by
  refine g_aload_n 0 dX1_outcomesAgree_0 rfl ?_
  refine r_get (.ref (gX E + (b + 1))) f_X1_12_X1 rfl (kbz hb) (lt_b0 hb) dX1_outcomesAgree_1 (fun _ => rfl) ?_
  refine g_aload_n 0 dX1_outcomesAgree_4 rfl ?_
  refine r_get (.int (v.1 b 5)) f_X1_62_X1 rfl (kbz hb) (lt_b0 hb) dX1_outcomesAgree_5 (fun _ => rfl) ?_
  obtain ⟨h1, hp⟩ := hp
  refine g_callV (rest := []) s_X1_231_X5 rfl (c_X5_mostLoss (E := E) (d := d - 1) b hb (by omega) (v.1 b 5) v h1) (kb_1 hb) (lt_b hb (by decide)) rfl rfl (Nat.le_of_ble_eq_true rfl) (by omega) (by decide) (by decide) dX1_outcomesAgree_8 (adV ?_) axN
  refine g_iconst dX1_outcomesAgree_11 (2 : Int32) (by decide) ?_
  refine g_idiv dX1_outcomesAgree_12 (by decide) ?_
  refine g_istore_n [(1, .int ((f_X5_mostLoss b (v.1 b 5) v) / (2 : Int32))), (0, .ref (gX E + b))] dX1_outcomesAgree_13 rfl (by decide) rfl ?_
  refine g_aload_n 1 dX1_outcomesAgree_14 rfl ?_
  refine r_get (.ref (gX E + (b + 1))) f_X1_12_X1 rfl (kbz hb) (lt_b0 hb) dX1_outcomesAgree_15 (fun _ => rfl) ?_
  refine g_iload_n 0 dX1_outcomesAgree_18 rfl ?_
  refine g_aload_n 1 dX1_outcomesAgree_19 rfl ?_
  refine r_get (.int (v.1 b 5)) f_X1_62_X1 rfl (kbz hb) (lt_b0 hb) dX1_outcomesAgree_20 (fun _ => rfl) ?_
  obtain ⟨h2, hp⟩ := hp
  refine g_callV (rest := []) s_X1_234_X5 rfl (c_X5_countByTable (E := E) (d := d - 1) b hb (by omega) ((f_X5_mostLoss b (v.1 b 5) v) / (2 : Int32)) (v.1 b 5) v h2) (kb_1 hb) (lt_b hb (by decide)) rfl rfl (Nat.le_of_ble_eq_true rfl) (by omega) (by decide) (by decide) dX1_outcomesAgree_23 (adV ?_) axN
  refine g_lv (lv' := [(0, .ref (gX E + b)), (1, .int ((f_X5_mostLoss b (v.1 b 5) v) / (2 : Int32)))]) [1, 0] rfl ?_
  exact w_X1_outcomesAgree_26 b hb hd    ((f_X5_mostLoss b (v.1 b 5) v) / (2 : Int32)) ((f_X5_countByTable b ((f_X5_mostLoss b (v.1 b 5) v) / (2 : Int32)) (v.1 b 5) v).1) (f_X5_countByTable b ((f_X5_mostLoss b (v.1 b 5) v) / (2 : Int32)) (v.1 b 5) v).2 hp hQ
def f_X1_outcomesAgree (b : Nat)  (v : gV) : Int32 × gV := f_X1_outcomesAgree_0 b  v
def p_X1_outcomesAgree (b : Nat)  (v : gV) : Prop := p_X1_outcomesAgree_0 b  v
theorem c_X1_outcomesAgree {E : gE} {d : Nat} (b : Nat) (hb : isBk b) (hd : 3 ≤ d)  (v : gV) (hp : p_X1_outcomesAgree b  v) : CT E m_X1_outcomesAgree d 0 0 [.ref (gX E + b)] (rS v) (Cq (.inl (some (.int ((f_X1_outcomesAgree b  v).1)))) (f_X1_outcomesAgree b  v).2) := CT.of ok_X1_outcomesAgree rfl (Nat.le_of_ble_eq_true rfl) (w_X1_outcomesAgree_0 b hb hd  v hp ⟨rfl, rfl⟩)
def f_X2_copyFrom_84 (b : Nat) (b2 : Nat) (K51 : Int32 → gV → gV)  (x2 : Int32) (v : gV) : gV := K51 (x2 + 1) v
def p_X2_copyFrom_84 (b : Nat) (b2 : Nat) (K51 : Int32 → gV → gV)  (PK51 : Int32 → gV → Prop)  (x2 : Int32) (v : gV) : Prop := PK51 (x2 + 1) v
set_option maxHeartbeats 4000000 in
set_option maxRecDepth 100000 in
theorem w_X2_copyFrom_84 {E : gE} {d : Nat} {Q : gO → gS → Prop} (b : Nat) (b2 : Nat) (hb : isBk b) (hb2 : isBk b2) (hd : 4 ≤ d) (K51 : Int32 → gV → gV)  (PK51 : Int32 → gV → Prop)  (hK51 : ∀ (x2 : Int32) (v : gV), PK51 x2 v → gqV Q (K51 x2 v) → gG E m_X2_copyFrom d Q 0 0 (rS v) 51 [(0, .ref (gX E + (b + 10))), (1, .ref (gX E + (b2 + 10))), (2, .int x2)] [])  (x2 : Int32) (v : gV) (hp : p_X2_copyFrom_84 b b2 K51 PK51 x2 v) (hQ : gqV Q (f_X2_copyFrom_84 b b2 K51 x2 v)) : gG E m_X2_copyFrom d Q 0 0 (rS v) 84 [(0, .ref (gX E + (b + 10))), (1, .ref (gX E + (b2 + 10))), (2, .int x2)] [] := by
  refine g_iinc 2 (x2 + 1) [(2, .int (x2 + 1)), (0, .ref (gX E + (b + 10))), (1, .ref (gX E + (b2 + 10)))] dX2_copyFrom_84 rfl rfl (by decide) rfl ?_
  refine g_goto 51 dX2_copyFrom_87 (by decide) ?_
  refine g_lv (lv' := [(0, .ref (gX E + (b + 10))), (1, .ref (gX E + (b2 + 10))), (2, .int (x2 + 1))]) [1, 2, 0] rfl ?_
  exact hK51 (x2 + 1) v hp hQ
def f_X2_copyFrom_69 (b : Nat) (b2 : Nat) (K51 : Int32 → gV → gV)  (x2 : Int32) (v : gV) : gV := f_X2_copyFrom_84 b b2 K51 x2 (f_X11_copyRow (b2 + 17 + 1 + (x2).toNatClampNeg) 4 (b + 17 + 1 + (x2).toNatClampNeg) 4 v)
def p_X2_copyFrom_69 (b : Nat) (b2 : Nat) (K51 : Int32 → gV → gV)  (PK51 : Int32 → gV → Prop)  (x2 : Int32) (v : gV) : Prop := (vp_in x2 12) ∧ ((vp_in x2 12) ∧ ((p_X11_copyRow (b2 + 17 + 1 + (x2).toNatClampNeg) 4 (b + 17 + 1 + (x2).toNatClampNeg) 4 v) ∧ (p_X2_copyFrom_84 b b2 K51 PK51 x2 (f_X11_copyRow (b2 + 17 + 1 + (x2).toNatClampNeg) 4 (b + 17 + 1 + (x2).toNatClampNeg) 4 v))))
set_option maxHeartbeats 4000000 in
set_option maxRecDepth 100000 in
theorem w_X2_copyFrom_69 {E : gE} {d : Nat} {Q : gO → gS → Prop} (b : Nat) (b2 : Nat) (hb : isBk b) (hb2 : isBk b2) (hd : 4 ≤ d) (K51 : Int32 → gV → gV)  (PK51 : Int32 → gV → Prop)  (hK51 : ∀ (x2 : Int32) (v : gV), PK51 x2 v → gqV Q (K51 x2 v) → gG E m_X2_copyFrom d Q 0 0 (rS v) 51 [(0, .ref (gX E + (b + 10))), (1, .ref (gX E + (b2 + 10))), (2, .int x2)] [])  (x2 : Int32) (v : gV) (hp : p_X2_copyFrom_69 b b2 K51 PK51 x2 v) (hQ : gqV Q (f_X2_copyFrom_69 b b2 K51 x2 v)) : gG E m_X2_copyFrom d Q 0 0 (rS v) 69 [(0, .ref (gX E + (b + 10))), (1, .ref (gX E + (b2 + 10))), (2, .int x2)] [] := by
  refine g_aload_n 1 dX2_copyFrom_69 rfl ?_
  refine r_get (.ref (gX E + (b2 + 17))) f_X2_30_X2 rfl (kb_10 hb2) (lt_b hb2 (by decide)) dX2_copyFrom_70 (fun _ => rfl) ?_
  refine g_iload_n 2 dX2_copyFrom_73 rfl ?_
  obtain ⟨h10, hp⟩ := hp
  refine r_aald (kb_17 hb2) (lt_b hb2 (by decide)) h10 (by decide) dX2_copyFrom_74 ?_
  refine g_aload_n 0 dX2_copyFrom_75 rfl ?_
  refine r_get (.ref (gX E + (b + 17))) f_X2_30_X2 rfl (kb_10 hb) (lt_b hb (by decide)) dX2_copyFrom_76 (fun _ => rfl) ?_
  refine g_iload_n 2 dX2_copyFrom_79 rfl ?_
  obtain ⟨h11, hp⟩ := hp
  refine r_aald (kb_17 hb) (lt_b hb (by decide)) h11 (by decide) dX2_copyFrom_80 ?_
  obtain ⟨h12, hp⟩ := hp
  refine g_callN (rest := []) s_X2_37 rfl (c_X11_copyRow (E := E) (d := d - 1) (b2 + 17 + 1 + (x2).toNatClampNeg) 4 (b + 17 + 1 + (x2).toNatClampNeg) 4 (by decide) (kg_17 hb2 h10) (lg_17 hb2 h10) (by decide) (kg_17 hb h11) (lg_17 hb h11) (by omega)  v h12) rfl rfl (Nat.le_of_ble_eq_true rfl) (by omega) (by decide) (by decide) dX2_copyFrom_81 (adN ?_) axN
  exact w_X2_copyFrom_84 b b2 hb hb2 hd K51 PK51 hK51 x2 (f_X11_copyRow (b2 + 17 + 1 + (x2).toNatClampNeg) 4 (b + 17 + 1 + (x2).toNatClampNeg) 4 v) hp hQ
def f_X2_copyFrom_51 (b : Nat) (b2 : Nat) : Nat → Int32 → gV → gV
  | 0, _, v => v
  | n + 1, x2, v => if (12 : Int32) ≤ x2 then v else (f_X2_copyFrom_69 b b2 (fun x2 v => f_X2_copyFrom_51 b b2  n x2 v) x2 (vM v (b + 13) x2.toNatClampNeg (v.1 (b2 + 13) x2.toNatClampNeg)))
def p_X2_copyFrom_51 (b : Nat) (b2 : Nat) : Nat → Int32 → gV → Prop
  | 0, _, _ => False
  | n + 1, x2, v => (((12 : Int32) ≤ x2) → (True)) ∧ (¬ ((12 : Int32) ≤ x2) → ((vp_in x2 12) ∧ ((vp_in x2 12) ∧ ((vp_nar .char (v.1 (b2 + 13) x2.toNatClampNeg) = (v.1 (b2 + 13) x2.toNatClampNeg)) ∧ (p_X2_copyFrom_69 b b2 (fun x2 v => f_X2_copyFrom_51 b b2  n x2 v) (fun x2 v => p_X2_copyFrom_51 b b2   n x2 v) x2 (vM v (b + 13) x2.toNatClampNeg (v.1 (b2 + 13) x2.toNatClampNeg)))))))
set_option maxHeartbeats 4000000 in
set_option maxRecDepth 100000 in
theorem w_X2_copyFrom_51 {E : gE} {d : Nat} {Q : gO → gS → Prop} (b : Nat) (b2 : Nat) (hb : isBk b) (hb2 : isBk b2) (hd : 4 ≤ d) : ∀ (n : Nat) (x2 : Int32) (v : gV), p_X2_copyFrom_51 b b2   n x2 v → gqV Q (f_X2_copyFrom_51 b b2  n x2 v) → gG E m_X2_copyFrom d Q 0 0 (rS v) 51 [(0, .ref (gX E + (b + 10))), (1, .ref (gX E + (b2 + 10))), (2, .int x2)] [] := by
  intro n
  induction n with
  | zero => intro x2 v hp; exact hp.elim
  | succ n ih =>
    intro x2 v hp hQ
    refine g_iload_n 2 dX2_copyFrom_51 rfl ?_
    refine g_bipush dX2_copyFrom_52 (12 : Int32) (by decide) ?_
    refine g_icmp_ge 90 dX2_copyFrom_54 (by decide) (fun h6 => ?_) (fun h6 => ?_)
    · have hQ := qp (P := gqV Q) h6 hQ
      have hp := hp.1 h6
      exact g_vret rfl dX2_copyFrom_90 hQ
    · have hQ := qn (P := gqV Q) h6 hQ
      have hp := hp.2 h6
      refine g_aload_n 0 dX2_copyFrom_57 rfl ?_
      refine r_get (.ref (gX E + (b + 13))) f_X2_15_X2 rfl (kb_10 hb) (lt_b hb (by decide)) dX2_copyFrom_58 (fun _ => rfl) ?_
      refine g_iload_n 2 dX2_copyFrom_61 rfl ?_
      refine g_aload_n 1 dX2_copyFrom_62 rfl ?_
      refine r_get (.ref (gX E + (b2 + 13))) f_X2_15_X2 rfl (kb_10 hb2) (lt_b hb2 (by decide)) dX2_copyFrom_63 (fun _ => rfl) ?_
      refine g_iload_n 2 dX2_copyFrom_66 rfl ?_
      obtain ⟨h7, hp⟩ := hp
      refine g_cald (kb_13 hb2) (lt_b hb2 (by decide)) h7 dX2_copyFrom_67 ?_
      obtain ⟨h8, hp⟩ := hp
      obtain ⟨h9, hp⟩ := hp
      refine r_cast (kb_13 hb) (lt_b hb (by decide)) h8 h9 dX2_copyFrom_68 ?_
      exact w_X2_copyFrom_69 b b2 hb hb2 hd (fun x2 v => f_X2_copyFrom_51 b b2  n x2 v) (fun x2 v => p_X2_copyFrom_51 b b2   n x2 v) ih x2 (vM v (b + 13) x2.toNatClampNeg (v.1 (b2 + 13) x2.toNatClampNeg)) hp hQ
def f_X2_copyFrom_49 (b : Nat) (b2 : Nat)  (v : gV) : gV := f_X2_copyFrom_51 b b2  5000 (0 : Int32) v
def p_X2_copyFrom_49 (b : Nat) (b2 : Nat)  (v : gV) : Prop := p_X2_copyFrom_51 b b2   5000 (0 : Int32) v
set_option maxHeartbeats 4000000 in
set_option maxRecDepth 100000 in
theorem w_X2_copyFrom_49 {E : gE} {d : Nat} {Q : gO → gS → Prop} (b : Nat) (b2 : Nat) (hb : isBk b) (hb2 : isBk b2) (hd : 4 ≤ d)  (v : gV) (hp : p_X2_copyFrom_49 b b2    v) (hQ : gqV Q (f_X2_copyFrom_49 b b2   v)) : gG E m_X2_copyFrom d Q 0 0 (rS v) 49 [(0, .ref (gX E + (b + 10))), (1, .ref (gX E + (b2 + 10)))] [] := by
  refine g_iconst dX2_copyFrom_49 (0 : Int32) (by decide) ?_
  refine g_istore_n [(2, .int ((0 : Int32))), (0, .ref (gX E + (b + 10))), (1, .ref (gX E + (b2 + 10)))] dX2_copyFrom_50 rfl (by decide) rfl ?_
  refine g_lv (lv' := [(0, .ref (gX E + (b + 10))), (1, .ref (gX E + (b2 + 10))), (2, .int ((0 : Int32)))]) [1, 2, 0] rfl ?_
  exact w_X2_copyFrom_51 b b2 hb hb2 hd    5000 (0 : Int32) v hp hQ
def f_X2_copyFrom_38 (b : Nat) (b2 : Nat)  (v : gV) : gV := f_X2_copyFrom_49 b b2   (f_X11_copyRow (b2 + 16) 12 (b + 16) 12 v)
def p_X2_copyFrom_38 (b : Nat) (b2 : Nat)  (v : gV) : Prop := (p_X11_copyRow (b2 + 16) 12 (b + 16) 12 v) ∧ (p_X2_copyFrom_49 b b2    (f_X11_copyRow (b2 + 16) 12 (b + 16) 12 v))
set_option maxHeartbeats 4000000 in
set_option maxRecDepth 100000 in
theorem w_X2_copyFrom_38 {E : gE} {d : Nat} {Q : gO → gS → Prop} (b : Nat) (b2 : Nat) (hb : isBk b) (hb2 : isBk b2) (hd : 4 ≤ d)  (v : gV) (hp : p_X2_copyFrom_38 b b2    v) (hQ : gqV Q (f_X2_copyFrom_38 b b2   v)) : gG E m_X2_copyFrom d Q 0 0 (rS v) 38 [(0, .ref (gX E + (b + 10))), (1, .ref (gX E + (b2 + 10)))] [] := by
  refine g_aload_n 1 dX2_copyFrom_38 rfl ?_
  refine r_get (.ref (gX E + (b2 + 16))) f_X2_25_X2 rfl (kb_10 hb2) (lt_b hb2 (by decide)) dX2_copyFrom_39 (fun _ => rfl) ?_
  refine g_aload_n 0 dX2_copyFrom_42 rfl ?_
  refine r_get (.ref (gX E + (b + 16))) f_X2_25_X2 rfl (kb_10 hb) (lt_b hb (by decide)) dX2_copyFrom_43 (fun _ => rfl) ?_
  obtain ⟨h5, hp⟩ := hp
  refine g_callN (rest := []) s_X2_37 rfl (c_X11_copyRow (E := E) (d := d - 1) (b2 + 16) 12 (b + 16) 12 (by decide) (kb_16 hb2) (lt_b hb2 (by decide)) (by decide) (kb_16 hb) (lt_b hb (by decide)) (by omega)  v h5) rfl rfl (Nat.le_of_ble_eq_true rfl) (by omega) (by decide) (by decide) dX2_copyFrom_46 (adN ?_) axN
  exact w_X2_copyFrom_49 b b2 hb hb2 hd     (f_X11_copyRow (b2 + 16) 12 (b + 16) 12 v) hp hQ
def f_X2_copyFrom_27 (b : Nat) (b2 : Nat)  (v : gV) : gV := f_X2_copyFrom_38 b b2   (f_X11_copyRow (b2 + 15) 12 (b + 15) 12 v)
def p_X2_copyFrom_27 (b : Nat) (b2 : Nat)  (v : gV) : Prop := (p_X11_copyRow (b2 + 15) 12 (b + 15) 12 v) ∧ (p_X2_copyFrom_38 b b2    (f_X11_copyRow (b2 + 15) 12 (b + 15) 12 v))
set_option maxHeartbeats 4000000 in
set_option maxRecDepth 100000 in
theorem w_X2_copyFrom_27 {E : gE} {d : Nat} {Q : gO → gS → Prop} (b : Nat) (b2 : Nat) (hb : isBk b) (hb2 : isBk b2) (hd : 4 ≤ d)  (v : gV) (hp : p_X2_copyFrom_27 b b2    v) (hQ : gqV Q (f_X2_copyFrom_27 b b2   v)) : gG E m_X2_copyFrom d Q 0 0 (rS v) 27 [(0, .ref (gX E + (b + 10))), (1, .ref (gX E + (b2 + 10)))] [] := by
  refine g_aload_n 1 dX2_copyFrom_27 rfl ?_
  refine r_get (.ref (gX E + (b2 + 15))) f_X2_22_X2 rfl (kb_10 hb2) (lt_b hb2 (by decide)) dX2_copyFrom_28 (fun _ => rfl) ?_
  refine g_aload_n 0 dX2_copyFrom_31 rfl ?_
  refine r_get (.ref (gX E + (b + 15))) f_X2_22_X2 rfl (kb_10 hb) (lt_b hb (by decide)) dX2_copyFrom_32 (fun _ => rfl) ?_
  obtain ⟨h4, hp⟩ := hp
  refine g_callN (rest := []) s_X2_37 rfl (c_X11_copyRow (E := E) (d := d - 1) (b2 + 15) 12 (b + 15) 12 (by decide) (kb_15 hb2) (lt_b hb2 (by decide)) (by decide) (kb_15 hb) (lt_b hb (by decide)) (by omega)  v h4) rfl rfl (Nat.le_of_ble_eq_true rfl) (by omega) (by decide) (by decide) dX2_copyFrom_35 (adN ?_) axN
  exact w_X2_copyFrom_38 b b2 hb hb2 hd     (f_X11_copyRow (b2 + 15) 12 (b + 15) 12 v) hp hQ
def f_X2_copyFrom_16 (b : Nat) (b2 : Nat)  (v : gV) : gV := f_X2_copyFrom_27 b b2   (f_X11_copyRow (b2 + 14) 12 (b + 14) 12 v)
def p_X2_copyFrom_16 (b : Nat) (b2 : Nat)  (v : gV) : Prop := (p_X11_copyRow (b2 + 14) 12 (b + 14) 12 v) ∧ (p_X2_copyFrom_27 b b2    (f_X11_copyRow (b2 + 14) 12 (b + 14) 12 v))
set_option maxHeartbeats 4000000 in
set_option maxRecDepth 100000 in
theorem w_X2_copyFrom_16 {E : gE} {d : Nat} {Q : gO → gS → Prop} (b : Nat) (b2 : Nat) (hb : isBk b) (hb2 : isBk b2) (hd : 4 ≤ d)  (v : gV) (hp : p_X2_copyFrom_16 b b2    v) (hQ : gqV Q (f_X2_copyFrom_16 b b2   v)) : gG E m_X2_copyFrom d Q 0 0 (rS v) 16 [(0, .ref (gX E + (b + 10))), (1, .ref (gX E + (b2 + 10)))] [] := by
  refine g_aload_n 1 dX2_copyFrom_16 rfl ?_
  refine r_get (.ref (gX E + (b2 + 14))) f_X2_19_X2 rfl (kb_10 hb2) (lt_b hb2 (by decide)) dX2_copyFrom_17 (fun _ => rfl) ?_
  refine g_aload_n 0 dX2_copyFrom_20 rfl ?_
  refine r_get (.ref (gX E + (b + 14))) f_X2_19_X2 rfl (kb_10 hb) (lt_b hb (by decide)) dX2_copyFrom_21 (fun _ => rfl) ?_
  obtain ⟨h3, hp⟩ := hp
  refine g_callN (rest := []) s_X2_37 rfl (c_X11_copyRow (E := E) (d := d - 1) (b2 + 14) 12 (b + 14) 12 (by decide) (kb_14 hb2) (lt_b hb2 (by decide)) (by decide) (kb_14 hb) (lt_b hb (by decide)) (by omega)  v h3) rfl rfl (Nat.le_of_ble_eq_true rfl) (by omega) (by decide) (by decide) dX2_copyFrom_24 (adN ?_) axN
  exact w_X2_copyFrom_27 b b2 hb hb2 hd     (f_X11_copyRow (b2 + 14) 12 (b + 14) 12 v) hp hQ
def f_X2_copyFrom_5 (b : Nat) (b2 : Nat)  (v : gV) : gV := f_X2_copyFrom_16 b b2   (f_X11_copyRow (b2 + 12) 12 (b + 12) 12 v)
def p_X2_copyFrom_5 (b : Nat) (b2 : Nat)  (v : gV) : Prop := (p_X11_copyRow (b2 + 12) 12 (b + 12) 12 v) ∧ (p_X2_copyFrom_16 b b2    (f_X11_copyRow (b2 + 12) 12 (b + 12) 12 v))
set_option maxHeartbeats 4000000 in
set_option maxRecDepth 100000 in
theorem w_X2_copyFrom_5 {E : gE} {d : Nat} {Q : gO → gS → Prop} (b : Nat) (b2 : Nat) (hb : isBk b) (hb2 : isBk b2) (hd : 4 ≤ d)  (v : gV) (hp : p_X2_copyFrom_5 b b2    v) (hQ : gqV Q (f_X2_copyFrom_5 b b2   v)) : gG E m_X2_copyFrom d Q 0 0 (rS v) 5 [(0, .ref (gX E + (b + 10))), (1, .ref (gX E + (b2 + 10)))] [] := by
  refine g_aload_n 1 dX2_copyFrom_5 rfl ?_
  refine r_get (.ref (gX E + (b2 + 12))) f_X2_9_X2 rfl (kb_10 hb2) (lt_b hb2 (by decide)) dX2_copyFrom_6 (fun _ => rfl) ?_
  refine g_aload_n 0 dX2_copyFrom_9 rfl ?_
  refine r_get (.ref (gX E + (b + 12))) f_X2_9_X2 rfl (kb_10 hb) (lt_b hb (by decide)) dX2_copyFrom_10 (fun _ => rfl) ?_
  obtain ⟨h2, hp⟩ := hp
  refine g_callN (rest := []) s_X2_37 rfl (c_X11_copyRow (E := E) (d := d - 1) (b2 + 12) 12 (b + 12) 12 (by decide) (kb_12 hb2) (lt_b hb2 (by decide)) (by decide) (kb_12 hb) (lt_b hb (by decide)) (by omega)  v h2) rfl rfl (Nat.le_of_ble_eq_true rfl) (by omega) (by decide) (by decide) dX2_copyFrom_13 (adN ?_) axN
  exact w_X2_copyFrom_16 b b2 hb hb2 hd     (f_X11_copyRow (b2 + 12) 12 (b + 12) 12 v) hp hQ
def f_X2_copyFrom_0 (b : Nat) (b2 : Nat)  (v : gV) : gV := f_X2_copyFrom_5 b b2   (f_X6_copyIds_C b b2 v)
def p_X2_copyFrom_0 (b : Nat) (b2 : Nat)  (v : gV) : Prop := (p_X6_copyIds_C b b2 v) ∧ (p_X2_copyFrom_5 b b2    (f_X6_copyIds_C b b2 v))
set_option maxHeartbeats 4000000 in
set_option maxRecDepth 100000 in
theorem w_X2_copyFrom_0 {E : gE} {d : Nat} {Q : gO → gS → Prop} (b : Nat) (b2 : Nat) (hb : isBk b) (hb2 : isBk b2) (hd : 4 ≤ d)  (v : gV) (hp : p_X2_copyFrom_0 b b2    v) (hQ : gqV Q (f_X2_copyFrom_0 b b2   v)) : gG E m_X2_copyFrom d Q 0 0 (rS v) 0 [(0, .ref (gX E + (b + 10))), (1, .ref (gX E + (b2 + 10)))] [] := by
  refine g_aload_n 0 dX2_copyFrom_0 rfl ?_
  refine g_aload_n 1 dX2_copyFrom_1 rfl ?_
  obtain ⟨h1, hp⟩ := hp
  refine g_callU (rest := []) s_X2_33_X2 rfl (c_X6_copyIds_C (E := E) (d := d - 1) b b2 hb hb2 (by omega)  v h1) (kb_10 hb) (lt_b hb (by decide)) rfl rfl (Nat.le_of_ble_eq_true rfl) (by omega) (by decide) (by decide) dX2_copyFrom_2 (adN ?_) axN
  exact w_X2_copyFrom_5 b b2 hb hb2 hd     (f_X6_copyIds_C b b2 v) hp hQ
def f_X2_copyFrom (b : Nat) (b2 : Nat)  (v : gV) : gV := f_X2_copyFrom_0 b b2  v
def p_X2_copyFrom (b : Nat) (b2 : Nat)  (v : gV) : Prop := p_X2_copyFrom_0 b b2  v
theorem c_X2_copyFrom {E : gE} {d : Nat} (b : Nat) (b2 : Nat) (hb : isBk b) (hb2 : isBk b2) (hd : 4 ≤ d)  (v : gV) (hp : p_X2_copyFrom b b2  v) : CT E m_X2_copyFrom d 0 0 [.ref (gX E + (b + 10)), .ref (gX E + (b2 + 10))] (rS v) (Cq (.inl none) (f_X2_copyFrom b b2  v)) := CT.of ok_X2_copyFrom rfl (Nat.le_of_ble_eq_true rfl) (w_X2_copyFrom_0 b b2 hb hb2 hd  v hp ⟨rfl, rfl⟩)
def f_X2_add_58 (b : Nat) (x5 : Int32) (v : gV) : (Int32 ⊕ String) × gV := (Sum.inl x5, v)
def p_X2_add_58 (b : Nat) (x5 : Int32) (v : gV) : Prop := True
set_option maxHeartbeats 4000000 in
set_option maxRecDepth 100000 in
theorem w_X2_add_58 {E : gE} {d : Nat} {Q : gO → gS → Prop} (b : Nat) (hb : isBk b) (hd : 9 ≤ d) (x5 : Int32) (v : gV) (hp : p_X2_add_58 b   x5 v) (hQ : gqTIV Q (f_X2_add_58 b  x5 v)) : gG E m_X2_add d Q 0 0 (rS v) 58 [(5, .int x5)] [] := by
  refine g_iload 0 dX2_add_58 rfl ?_
  exact g_iret rfl dX2_add_60 hQ
def f_X2_add_47 (b : Nat) (x5 : Int32) (v : gV) : (Int32 ⊕ String) × gV := f_X2_add_58 b  x5 (f_J7_fill_53178 (b + 17 + 1 + (x5).toNatClampNeg) 4 (0 : Int32) v)
def p_X2_add_47 (b : Nat) (x5 : Int32) (v : gV) : Prop := (vp_in x5 12) ∧ ((p_J7_fill_53178 (b + 17 + 1 + (x5).toNatClampNeg) 4 (0 : Int32) v) ∧ (p_X2_add_58 b   x5 (f_J7_fill_53178 (b + 17 + 1 + (x5).toNatClampNeg) 4 (0 : Int32) v)))
set_option maxHeartbeats 4000000 in
set_option maxRecDepth 100000 in
theorem w_X2_add_47 {E : gE} {d : Nat} {Q : gO → gS → Prop} (b : Nat) (hb : isBk b) (hd : 9 ≤ d) (x5 : Int32) (v : gV) (hp : p_X2_add_47 b   x5 v) (hQ : gqTIV Q (f_X2_add_47 b  x5 v)) : gG E m_X2_add d Q 0 0 (rS v) 47 [(0, .ref (gX E + (b + 10))), (5, .int x5)] [] := by
  refine g_aload_n 0 dX2_add_47 rfl ?_
  refine r_get (.ref (gX E + (b + 17))) f_X2_30_X2 rfl (kb_10 hb) (lt_b hb (by decide)) dX2_add_48 (fun _ => rfl) ?_
  refine g_iload 1 dX2_add_51 rfl ?_
  obtain ⟨h10, hp⟩ := hp
  refine r_aald (kb_17 hb) (lt_b hb (by decide)) h10 (by decide) dX2_add_53 ?_
  refine g_iconst dX2_add_54 (0 : Int32) (by decide) ?_
  obtain ⟨h11, hp⟩ := hp
  refine g_callS (rest := []) s_X2_45 rfl (c_J7_fill_53178 (E := E) (d := d - 1) (b + 17 + 1 + (x5).toNatClampNeg) 4 (by decide) (kg_17 hb h10) (lg_17 hb h10) (by omega) (0 : Int32) v h11) rfl rfl (Nat.le_of_ble_eq_true rfl) (by omega) (by decide) (by decide) dX2_add_55 (adN ?_) axN
  refine g_lv (lv' := [(5, .int x5)]) [1] rfl ?_
  exact w_X2_add_58 b hb hd    x5 (f_J7_fill_53178 (b + 17 + 1 + (x5).toNatClampNeg) 4 (0 : Int32) v) hp hQ
def f_X2_add_38 (b : Nat) (x4 : Int32) (x5 : Int32) (v : gV) : (Int32 ⊕ String) × gV := f_X2_add_47 b  x5 (vM v (b + 16) x5.toNatClampNeg x4)
def p_X2_add_38 (b : Nat) (x4 : Int32) (x5 : Int32) (v : gV) : Prop := (vp_in x5 12) ∧ (p_X2_add_47 b   x5 (vM v (b + 16) x5.toNatClampNeg x4))
set_option maxHeartbeats 4000000 in
set_option maxRecDepth 100000 in
theorem w_X2_add_38 {E : gE} {d : Nat} {Q : gO → gS → Prop} (b : Nat) (hb : isBk b) (hd : 9 ≤ d) (x4 : Int32) (x5 : Int32) (v : gV) (hp : p_X2_add_38 b   x4 x5 v) (hQ : gqTIV Q (f_X2_add_38 b  x4 x5 v)) : gG E m_X2_add d Q 0 0 (rS v) 38 [(0, .ref (gX E + (b + 10))), (4, .int x4), (5, .int x5)] [] := by
  refine g_aload_n 0 dX2_add_38 rfl ?_
  refine r_get (.ref (gX E + (b + 16))) f_X2_25_X2 rfl (kb_10 hb) (lt_b hb (by decide)) dX2_add_39 (fun _ => rfl) ?_
  refine g_iload 2 dX2_add_42 rfl ?_
  refine g_iload 1 dX2_add_44 rfl ?_
  obtain ⟨h9, hp⟩ := hp
  refine r_iast (kb_16 hb) (lt_b hb (by decide)) h9 dX2_add_46 ?_
  refine g_lv (lv' := [(0, .ref (gX E + (b + 10))), (5, .int x5)]) [0, 2] rfl ?_
  exact w_X2_add_47 b hb hd    x5 (vM v (b + 16) x5.toNatClampNeg x4) hp hQ
def f_X2_add_30 (b : Nat) (x4 : Int32) (x5 : Int32) (v : gV) : (Int32 ⊕ String) × gV := f_X2_add_38 b  x4 x5 (vM v (b + 15) x5.toNatClampNeg (0 : Int32))
def p_X2_add_30 (b : Nat) (x4 : Int32) (x5 : Int32) (v : gV) : Prop := (vp_in x5 12) ∧ (p_X2_add_38 b   x4 x5 (vM v (b + 15) x5.toNatClampNeg (0 : Int32)))
set_option maxHeartbeats 4000000 in
set_option maxRecDepth 100000 in
theorem w_X2_add_30 {E : gE} {d : Nat} {Q : gO → gS → Prop} (b : Nat) (hb : isBk b) (hd : 9 ≤ d) (x4 : Int32) (x5 : Int32) (v : gV) (hp : p_X2_add_30 b   x4 x5 v) (hQ : gqTIV Q (f_X2_add_30 b  x4 x5 v)) : gG E m_X2_add d Q 0 0 (rS v) 30 [(0, .ref (gX E + (b + 10))), (4, .int x4), (5, .int x5)] [] := by
  refine g_aload_n 0 dX2_add_30 rfl ?_
  refine r_get (.ref (gX E + (b + 15))) f_X2_22_X2 rfl (kb_10 hb) (lt_b hb (by decide)) dX2_add_31 (fun _ => rfl) ?_
  refine g_iload 2 dX2_add_34 rfl ?_
  refine g_iconst dX2_add_36 (0 : Int32) (by decide) ?_
  obtain ⟨h8, hp⟩ := hp
  refine r_iast (kb_15 hb) (lt_b hb (by decide)) h8 dX2_add_37 ?_
  exact w_X2_add_38 b hb hd    x4 x5 (vM v (b + 15) x5.toNatClampNeg (0 : Int32)) hp hQ
def f_X2_add_22 (b : Nat) (x3 : Int32) (x4 : Int32) (x5 : Int32) (v : gV) : (Int32 ⊕ String) × gV := f_X2_add_30 b  x4 x5 (vM v (b + 14) x5.toNatClampNeg x3)
def p_X2_add_22 (b : Nat) (x3 : Int32) (x4 : Int32) (x5 : Int32) (v : gV) : Prop := (vp_in x5 12) ∧ (p_X2_add_30 b   x4 x5 (vM v (b + 14) x5.toNatClampNeg x3))
set_option maxHeartbeats 4000000 in
set_option maxRecDepth 100000 in
theorem w_X2_add_22 {E : gE} {d : Nat} {Q : gO → gS → Prop} (b : Nat) (hb : isBk b) (hd : 9 ≤ d) (x3 : Int32) (x4 : Int32) (x5 : Int32) (v : gV) (hp : p_X2_add_22 b   x3 x4 x5 v) (hQ : gqTIV Q (f_X2_add_22 b  x3 x4 x5 v)) : gG E m_X2_add d Q 0 0 (rS v) 22 [(0, .ref (gX E + (b + 10))), (3, .int x3), (4, .int x4), (5, .int x5)] [] := by
  refine g_aload_n 0 dX2_add_22 rfl ?_
  refine r_get (.ref (gX E + (b + 14))) f_X2_19_X2 rfl (kb_10 hb) (lt_b hb (by decide)) dX2_add_23 (fun _ => rfl) ?_
  refine g_iload 3 dX2_add_26 rfl ?_
  refine g_iload_n 1 dX2_add_28 rfl ?_
  obtain ⟨h7, hp⟩ := hp
  refine r_iast (kb_14 hb) (lt_b hb (by decide)) h7 dX2_add_29 ?_
  refine g_lv (lv' := [(0, .ref (gX E + (b + 10))), (4, .int x4), (5, .int x5)]) [0, 2, 3] rfl ?_
  exact w_X2_add_30 b hb hd    x4 x5 (vM v (b + 14) x5.toNatClampNeg x3) hp hQ
def f_X2_add_14 (b : Nat) (x2 : Int32) (x3 : Int32) (x4 : Int32) (x5 : Int32) (v : gV) : (Int32 ⊕ String) × gV := f_X2_add_22 b  x3 x4 x5 (vM v (b + 13) x5.toNatClampNeg x2)
def p_X2_add_14 (b : Nat) (x2 : Int32) (x3 : Int32) (x4 : Int32) (x5 : Int32) (v : gV) : Prop := (vp_in x5 12) ∧ ((vp_nar .char x2 = x2) ∧ (p_X2_add_22 b   x3 x4 x5 (vM v (b + 13) x5.toNatClampNeg x2)))
set_option maxHeartbeats 4000000 in
set_option maxRecDepth 100000 in
theorem w_X2_add_14 {E : gE} {d : Nat} {Q : gO → gS → Prop} (b : Nat) (hb : isBk b) (hd : 9 ≤ d) (x2 : Int32) (x3 : Int32) (x4 : Int32) (x5 : Int32) (v : gV) (hp : p_X2_add_14 b   x2 x3 x4 x5 v) (hQ : gqTIV Q (f_X2_add_14 b  x2 x3 x4 x5 v)) : gG E m_X2_add d Q 0 0 (rS v) 14 [(0, .ref (gX E + (b + 10))), (2, .int x2), (3, .int x3), (4, .int x4), (5, .int x5)] [] := by
  refine g_aload_n 0 dX2_add_14 rfl ?_
  refine r_get (.ref (gX E + (b + 13))) f_X2_15_X2 rfl (kb_10 hb) (lt_b hb (by decide)) dX2_add_15 (fun _ => rfl) ?_
  refine g_iload 4 dX2_add_18 rfl ?_
  refine g_iload_n 1 dX2_add_20 rfl ?_
  obtain ⟨h5, hp⟩ := hp
  obtain ⟨h6, hp⟩ := hp
  refine r_cast (kb_13 hb) (lt_b hb (by decide)) h5 h6 dX2_add_21 ?_
  refine g_lv (lv' := [(0, .ref (gX E + (b + 10))), (3, .int x3), (4, .int x4), (5, .int x5)]) [0, 2, 3, 4] rfl ?_
  exact w_X2_add_22 b hb hd    x3 x4 x5 (vM v (b + 13) x5.toNatClampNeg x2) hp hQ
def f_X2_add_4 (b : Nat) (x1 : Int32) (x2 : Int32) (x3 : Int32) (x4 : Int32) (s0 : Int32) (v : gV) : (Int32 ⊕ String) × gV := f_X2_add_14 b  x2 x3 x4 s0 (vM v (b + 12) s0.toNatClampNeg x1)
def p_X2_add_4 (b : Nat) (x1 : Int32) (x2 : Int32) (x3 : Int32) (x4 : Int32) (s0 : Int32) (v : gV) : Prop := (vp_in s0 12) ∧ (p_X2_add_14 b   x2 x3 x4 s0 (vM v (b + 12) s0.toNatClampNeg x1))
set_option maxHeartbeats 4000000 in
set_option maxRecDepth 100000 in
theorem w_X2_add_4 {E : gE} {d : Nat} {Q : gO → gS → Prop} (b : Nat) (hb : isBk b) (hd : 9 ≤ d) (x1 : Int32) (x2 : Int32) (x3 : Int32) (x4 : Int32) (s0 : Int32) (v : gV) (hp : p_X2_add_4 b   x1 x2 x3 x4 s0 v) (hQ : gqTIV Q (f_X2_add_4 b  x1 x2 x3 x4 s0 v)) : gG E m_X2_add d Q 0 0 (rS v) 4 [(0, .ref (gX E + (b + 10))), (1, .int x1), (2, .int x2), (3, .int x3), (4, .int x4)] [.int s0] := by
  refine g_istore [(5, .int s0), (0, .ref (gX E + (b + 10))), (1, .int x1), (2, .int x2), (3, .int x3), (4, .int x4)] dX2_add_4 (by decide) rfl ?_
  refine g_aload_n 1 dX2_add_6 rfl ?_
  refine r_get (.ref (gX E + (b + 12))) f_X2_9_X2 rfl (kb_10 hb) (lt_b hb (by decide)) dX2_add_7 (fun _ => rfl) ?_
  refine g_iload 0 dX2_add_10 rfl ?_
  refine g_iload_n 2 dX2_add_12 rfl ?_
  obtain ⟨h4, hp⟩ := hp
  refine r_iast (kb_12 hb) (lt_b hb (by decide)) h4 dX2_add_13 ?_
  refine g_lv (lv' := [(0, .ref (gX E + (b + 10))), (2, .int x2), (3, .int x3), (4, .int x4), (5, .int s0)]) [1, 3, 4, 5, 0] rfl ?_
  exact w_X2_add_14 b hb hd    x2 x3 x4 s0 (vM v (b + 12) s0.toNatClampNeg x1) hp hQ
def f_X2_add_0 (b : Nat) (x1 : Int32) (x2 : Int32) (x3 : Int32) (x4 : Int32) (v : gV) : (Int32 ⊕ String) × gV := Sum.elim (fun (sr2 : Int32) => f_X2_add_4 b  x1 x2 x3 x4 sr2 (f_X6_takePlace_C b v).2) (fun (e : String) => (Sum.inr e, (f_X6_takePlace_C b v).2)) (f_X6_takePlace_C b v).1
def p_X2_add_0 (b : Nat) (x1 : Int32) (x2 : Int32) (x3 : Int32) (x4 : Int32) (v : gV) : Prop := (p_X6_takePlace_C b v) ∧ (∀ (sr2 : Int32), (f_X6_takePlace_C b v).1 = Sum.inl sr2 → (p_X2_add_4 b   x1 x2 x3 x4 sr2 (f_X6_takePlace_C b v).2))
set_option maxHeartbeats 4000000 in
set_option maxRecDepth 100000 in
theorem w_X2_add_0 {E : gE} {d : Nat} {Q : gO → gS → Prop} (b : Nat) (hb : isBk b) (hd : 9 ≤ d) (x1 : Int32) (x2 : Int32) (x3 : Int32) (x4 : Int32) (v : gV) (hp : p_X2_add_0 b   x1 x2 x3 x4 v) (hQ : gqTIV Q (f_X2_add_0 b  x1 x2 x3 x4 v)) : gG E m_X2_add d Q 1 6 (rS v) 0 [(0, .ref (gX E + (b + 10))), (1, .int x1), (2, .int x2), (3, .int x3), (4, .int x4)] [] := by
  refine g_aload_n 0 dX2_add_0 rfl ?_
  obtain ⟨h1, hp⟩ := hp
  refine g_callU (rest := []) s_X2_41_X2 rfl (c_X6_takePlace_C (E := E) (d := d - 1) b hb (by omega)  v h1) (kb_10 hb) (lt_b hb (by decide)) rfl rfl (Nat.le_of_ble_eq_true rfl) (by omega) (by decide) (by decide) dX2_add_1 (adTI (fun sr2 h3 => ?_)) (axTI (fun e h3 => g_outs rfl rfl (qe (P := gqTIV Q) h3 hQ)))
  have hQ := ql (P := gqTIV Q) h3 hQ
  have hp := hp sr2 h3
  exact w_X2_add_4 b hb hd    x1 x2 x3 x4 sr2 (f_X6_takePlace_C b v).2 hp hQ
def f_X2_add (b : Nat) (x1 : Int32) (x2 : Int32) (x3 : Int32) (x4 : Int32) (v : gV) : (Int32 ⊕ String) × gV := f_X2_add_0 b x1 x2 x3 x4 v
def p_X2_add (b : Nat) (x1 : Int32) (x2 : Int32) (x3 : Int32) (x4 : Int32) (v : gV) : Prop := p_X2_add_0 b x1 x2 x3 x4 v
theorem c_X2_add {E : gE} {d : Nat} (b : Nat) (hb : isBk b) (hd : 9 ≤ d) (x1 : Int32) (x2 : Int32) (x3 : Int32) (x4 : Int32) (v : gV) (hp : p_X2_add b x1 x2 x3 x4 v) : CT E m_X2_add d 1 6 [.ref (gX E + (b + 10)), .int x1, .int x2, .int x3, .int x4] (rS v) (Cq (gOi (f_X2_add b x1 x2 x3 x4 v).1) (f_X2_add b x1 x2 x3 x4 v).2) := CT.of ok_X2_add rfl (Nat.le_of_ble_eq_true rfl) (w_X2_add_0 b hb hd x1 x2 x3 x4 v hp ⟨rfl, rfl⟩)
def f_X2_remove_76 (b : Nat) (K39 : Int32 → gV → gV)  (x2 : Int32) (v : gV) : gV := K39 (x2 + 1) v
def p_X2_remove_76 (b : Nat) (K39 : Int32 → gV → gV)  (PK39 : Int32 → gV → Prop)  (x2 : Int32) (v : gV) : Prop := PK39 (x2 + 1) v
set_option maxHeartbeats 4000000 in
set_option maxRecDepth 100000 in
theorem w_X2_remove_76 {E : gE} {d : Nat} {Q : gO → gS → Prop} (b : Nat) (hb : isBk b) (hd : 3 ≤ d) (K39 : Int32 → gV → gV)  (PK39 : Int32 → gV → Prop)  (hK39 : ∀ (x2 : Int32) (v : gV), PK39 x2 v → gqV Q (K39 x2 v) → gG E m_X2_remove d Q 0 0 (rS v) 39 [(0, .ref (gX E + (b + 10))), (2, .int x2)] [])  (x2 : Int32) (v : gV) (hp : p_X2_remove_76 b K39 PK39 x2 v) (hQ : gqV Q (f_X2_remove_76 b K39 x2 v)) : gG E m_X2_remove d Q 0 0 (rS v) 76 [(0, .ref (gX E + (b + 10))), (2, .int x2)] [] := by
  refine g_iinc 1 (x2 + 1) [(2, .int (x2 + 1)), (0, .ref (gX E + (b + 10)))] dX2_remove_76 rfl rfl (by decide) rfl ?_
  refine g_goto 39 dX2_remove_79 (by decide) ?_
  refine g_lv (lv' := [(0, .ref (gX E + (b + 10))), (2, .int (x2 + 1))]) [1, 0] rfl ?_
  exact hK39 (x2 + 1) v hp hQ
def f_X2_remove_59 (b : Nat) (K39 : Int32 → gV → gV)  (x2 : Int32) (v : gV) : gV := f_X2_remove_76 b K39 x2 (f_X11_copyRow (b + 17 + 1 + (x2 + (1 : Int32)).toNatClampNeg) 4 (b + 17 + 1 + (x2).toNatClampNeg) 4 v)
def p_X2_remove_59 (b : Nat) (K39 : Int32 → gV → gV)  (PK39 : Int32 → gV → Prop)  (x2 : Int32) (v : gV) : Prop := (vp_in (x2 + (1 : Int32)) 12) ∧ ((vp_in x2 12) ∧ ((p_X11_copyRow (b + 17 + 1 + (x2 + (1 : Int32)).toNatClampNeg) 4 (b + 17 + 1 + (x2).toNatClampNeg) 4 v) ∧ (p_X2_remove_76 b K39 PK39 x2 (f_X11_copyRow (b + 17 + 1 + (x2 + (1 : Int32)).toNatClampNeg) 4 (b + 17 + 1 + (x2).toNatClampNeg) 4 v))))
set_option maxHeartbeats 4000000 in
set_option maxRecDepth 100000 in
theorem w_X2_remove_59 {E : gE} {d : Nat} {Q : gO → gS → Prop} (b : Nat) (hb : isBk b) (hd : 3 ≤ d) (K39 : Int32 → gV → gV)  (PK39 : Int32 → gV → Prop)  (hK39 : ∀ (x2 : Int32) (v : gV), PK39 x2 v → gqV Q (K39 x2 v) → gG E m_X2_remove d Q 0 0 (rS v) 39 [(0, .ref (gX E + (b + 10))), (2, .int x2)] [])  (x2 : Int32) (v : gV) (hp : p_X2_remove_59 b K39 PK39 x2 v) (hQ : gqV Q (f_X2_remove_59 b K39 x2 v)) : gG E m_X2_remove d Q 0 0 (rS v) 59 [(0, .ref (gX E + (b + 10))), (2, .int x2)] [] := by
  refine g_aload_n 0 dX2_remove_59 rfl ?_
  refine r_get (.ref (gX E + (b + 17))) f_X2_30_X2 rfl (kb_10 hb) (lt_b hb (by decide)) dX2_remove_60 (fun _ => rfl) ?_
  refine g_iload_n 1 dX2_remove_63 rfl ?_
  refine g_iconst dX2_remove_64 (1 : Int32) (by decide) ?_
  refine g_iadd dX2_remove_65 ?_
  obtain ⟨h10, hp⟩ := hp
  refine r_aald (kb_17 hb) (lt_b hb (by decide)) h10 (by decide) dX2_remove_66 ?_
  refine g_aload_n 0 dX2_remove_67 rfl ?_
  refine r_get (.ref (gX E + (b + 17))) f_X2_30_X2 rfl (kb_10 hb) (lt_b hb (by decide)) dX2_remove_68 (fun _ => rfl) ?_
  refine g_iload_n 1 dX2_remove_71 rfl ?_
  obtain ⟨h11, hp⟩ := hp
  refine r_aald (kb_17 hb) (lt_b hb (by decide)) h11 (by decide) dX2_remove_72 ?_
  obtain ⟨h12, hp⟩ := hp
  refine g_callN (rest := []) s_X2_37 rfl (c_X11_copyRow (E := E) (d := d - 1) (b + 17 + 1 + (x2 + (1 : Int32)).toNatClampNeg) 4 (b + 17 + 1 + (x2).toNatClampNeg) 4 (by decide) (kg_17 hb h10) (lg_17 hb h10) (by decide) (kg_17 hb h11) (lg_17 hb h11) (by omega)  v h12) rfl rfl (Nat.le_of_ble_eq_true rfl) (by omega) (by decide) (by decide) dX2_remove_73 (adN ?_) axN
  exact w_X2_remove_76 b hb hd K39 PK39 hK39 x2 (f_X11_copyRow (b + 17 + 1 + (x2 + (1 : Int32)).toNatClampNeg) 4 (b + 17 + 1 + (x2).toNatClampNeg) 4 v) hp hQ
def f_X2_remove_39 (b : Nat) : Nat → Int32 → gV → gV
  | 0, _, v => v
  | n + 1, x2, v => if (11 : Int32) ≤ x2 then v else (f_X2_remove_59 b (fun x2 v => f_X2_remove_39 b  n x2 v) x2 (vM v (b + 13) x2.toNatClampNeg (v.1 (b + 13) (x2 + (1 : Int32)).toNatClampNeg)))
def p_X2_remove_39 (b : Nat) : Nat → Int32 → gV → Prop
  | 0, _, _ => False
  | n + 1, x2, v => (((11 : Int32) ≤ x2) → (True)) ∧ (¬ ((11 : Int32) ≤ x2) → ((vp_in (x2 + (1 : Int32)) 12) ∧ ((vp_in x2 12) ∧ ((vp_nar .char (v.1 (b + 13) (x2 + (1 : Int32)).toNatClampNeg) = (v.1 (b + 13) (x2 + (1 : Int32)).toNatClampNeg)) ∧ (p_X2_remove_59 b (fun x2 v => f_X2_remove_39 b  n x2 v) (fun x2 v => p_X2_remove_39 b   n x2 v) x2 (vM v (b + 13) x2.toNatClampNeg (v.1 (b + 13) (x2 + (1 : Int32)).toNatClampNeg)))))))
set_option maxHeartbeats 4000000 in
set_option maxRecDepth 100000 in
theorem w_X2_remove_39 {E : gE} {d : Nat} {Q : gO → gS → Prop} (b : Nat) (hb : isBk b) (hd : 3 ≤ d) : ∀ (n : Nat) (x2 : Int32) (v : gV), p_X2_remove_39 b   n x2 v → gqV Q (f_X2_remove_39 b  n x2 v) → gG E m_X2_remove d Q 0 0 (rS v) 39 [(0, .ref (gX E + (b + 10))), (2, .int x2)] [] := by
  intro n
  induction n with
  | zero => intro x2 v hp; exact hp.elim
  | succ n ih =>
    intro x2 v hp hQ
    refine g_iload_n 1 dX2_remove_39 rfl ?_
    refine g_bipush dX2_remove_40 (11 : Int32) (by decide) ?_
    refine g_icmp_ge 82 dX2_remove_42 (by decide) (fun h6 => ?_) (fun h6 => ?_)
    · have hQ := qp (P := gqV Q) h6 hQ
      have hp := hp.1 h6
      exact g_vret rfl dX2_remove_82 hQ
    · have hQ := qn (P := gqV Q) h6 hQ
      have hp := hp.2 h6
      refine g_aload_n 0 dX2_remove_45 rfl ?_
      refine r_get (.ref (gX E + (b + 13))) f_X2_15_X2 rfl (kb_10 hb) (lt_b hb (by decide)) dX2_remove_46 (fun _ => rfl) ?_
      refine g_iload_n 1 dX2_remove_49 rfl ?_
      refine g_aload_n 0 dX2_remove_50 rfl ?_
      refine r_get (.ref (gX E + (b + 13))) f_X2_15_X2 rfl (kb_10 hb) (lt_b hb (by decide)) dX2_remove_51 (fun _ => rfl) ?_
      refine g_iload_n 1 dX2_remove_54 rfl ?_
      refine g_iconst dX2_remove_55 (1 : Int32) (by decide) ?_
      refine g_iadd dX2_remove_56 ?_
      obtain ⟨h7, hp⟩ := hp
      refine g_cald (kb_13 hb) (lt_b hb (by decide)) h7 dX2_remove_57 ?_
      obtain ⟨h8, hp⟩ := hp
      obtain ⟨h9, hp⟩ := hp
      refine r_cast (kb_13 hb) (lt_b hb (by decide)) h8 h9 dX2_remove_58 ?_
      exact w_X2_remove_59 b hb hd (fun x2 v => f_X2_remove_39 b  n x2 v) (fun x2 v => p_X2_remove_39 b   n x2 v) ih x2 (vM v (b + 13) x2.toNatClampNeg (v.1 (b + 13) (x2 + (1 : Int32)).toNatClampNeg)) hp hQ
def f_X2_remove_37 (b : Nat) (x1 : Int32) (v : gV) : gV := f_X2_remove_39 b  5000 x1 v
def p_X2_remove_37 (b : Nat) (x1 : Int32) (v : gV) : Prop := p_X2_remove_39 b   5000 x1 v
set_option maxHeartbeats 4000000 in
set_option maxRecDepth 100000 in
theorem w_X2_remove_37 {E : gE} {d : Nat} {Q : gO → gS → Prop} (b : Nat) (hb : isBk b) (hd : 3 ≤ d) (x1 : Int32) (v : gV) (hp : p_X2_remove_37 b   x1 v) (hQ : gqV Q (f_X2_remove_37 b  x1 v)) : gG E m_X2_remove d Q 0 0 (rS v) 37 [(0, .ref (gX E + (b + 10))), (1, .int x1)] [] := by
  refine g_iload_n 1 dX2_remove_37 rfl ?_
  refine g_istore_n [(2, .int x1), (0, .ref (gX E + (b + 10))), (1, .int x1)] dX2_remove_38 rfl (by decide) rfl ?_
  refine g_lv (lv' := [(0, .ref (gX E + (b + 10))), (2, .int x1)]) [1, 0] rfl ?_
  exact w_X2_remove_39 b hb hd    5000 x1 v hp hQ
def f_X2_remove_29 (b : Nat) (x1 : Int32) (v : gV) : gV := f_X2_remove_37 b  x1 (f_X11_closeGap (b + 16) 12 x1 v)
def p_X2_remove_29 (b : Nat) (x1 : Int32) (v : gV) : Prop := (p_X11_closeGap (b + 16) 12 x1 v) ∧ (p_X2_remove_37 b   x1 (f_X11_closeGap (b + 16) 12 x1 v))
set_option maxHeartbeats 4000000 in
set_option maxRecDepth 100000 in
theorem w_X2_remove_29 {E : gE} {d : Nat} {Q : gO → gS → Prop} (b : Nat) (hb : isBk b) (hd : 3 ≤ d) (x1 : Int32) (v : gV) (hp : p_X2_remove_29 b   x1 v) (hQ : gqV Q (f_X2_remove_29 b  x1 v)) : gG E m_X2_remove d Q 0 0 (rS v) 29 [(0, .ref (gX E + (b + 10))), (1, .int x1)] [] := by
  refine g_aload_n 0 dX2_remove_29 rfl ?_
  refine r_get (.ref (gX E + (b + 16))) f_X2_25_X2 rfl (kb_10 hb) (lt_b hb (by decide)) dX2_remove_30 (fun _ => rfl) ?_
  refine g_iload_n 1 dX2_remove_33 rfl ?_
  obtain ⟨h5, hp⟩ := hp
  refine g_callN (rest := []) s_X2_55 rfl (c_X11_closeGap (E := E) (d := d - 1) (b + 16) 12 (by decide) (kb_16 hb) (lt_b hb (by decide)) (by omega) x1 v h5) rfl rfl (Nat.le_of_ble_eq_true rfl) (by omega) (by decide) (by decide) dX2_remove_34 (adN ?_) axN
  exact w_X2_remove_37 b hb hd    x1 (f_X11_closeGap (b + 16) 12 x1 v) hp hQ
def f_X2_remove_21 (b : Nat) (x1 : Int32) (v : gV) : gV := f_X2_remove_29 b  x1 (f_X11_closeGap (b + 15) 12 x1 v)
def p_X2_remove_21 (b : Nat) (x1 : Int32) (v : gV) : Prop := (p_X11_closeGap (b + 15) 12 x1 v) ∧ (p_X2_remove_29 b   x1 (f_X11_closeGap (b + 15) 12 x1 v))
set_option maxHeartbeats 4000000 in
set_option maxRecDepth 100000 in
theorem w_X2_remove_21 {E : gE} {d : Nat} {Q : gO → gS → Prop} (b : Nat) (hb : isBk b) (hd : 3 ≤ d) (x1 : Int32) (v : gV) (hp : p_X2_remove_21 b   x1 v) (hQ : gqV Q (f_X2_remove_21 b  x1 v)) : gG E m_X2_remove d Q 0 0 (rS v) 21 [(0, .ref (gX E + (b + 10))), (1, .int x1)] [] := by
  refine g_aload_n 0 dX2_remove_21 rfl ?_
  refine r_get (.ref (gX E + (b + 15))) f_X2_22_X2 rfl (kb_10 hb) (lt_b hb (by decide)) dX2_remove_22 (fun _ => rfl) ?_
  refine g_iload_n 1 dX2_remove_25 rfl ?_
  obtain ⟨h4, hp⟩ := hp
  refine g_callN (rest := []) s_X2_55 rfl (c_X11_closeGap (E := E) (d := d - 1) (b + 15) 12 (by decide) (kb_15 hb) (lt_b hb (by decide)) (by omega) x1 v h4) rfl rfl (Nat.le_of_ble_eq_true rfl) (by omega) (by decide) (by decide) dX2_remove_26 (adN ?_) axN
  exact w_X2_remove_29 b hb hd    x1 (f_X11_closeGap (b + 15) 12 x1 v) hp hQ
def f_X2_remove_13 (b : Nat) (x1 : Int32) (v : gV) : gV := f_X2_remove_21 b  x1 (f_X11_closeGap (b + 14) 12 x1 v)
def p_X2_remove_13 (b : Nat) (x1 : Int32) (v : gV) : Prop := (p_X11_closeGap (b + 14) 12 x1 v) ∧ (p_X2_remove_21 b   x1 (f_X11_closeGap (b + 14) 12 x1 v))
set_option maxHeartbeats 4000000 in
set_option maxRecDepth 100000 in
theorem w_X2_remove_13 {E : gE} {d : Nat} {Q : gO → gS → Prop} (b : Nat) (hb : isBk b) (hd : 3 ≤ d) (x1 : Int32) (v : gV) (hp : p_X2_remove_13 b   x1 v) (hQ : gqV Q (f_X2_remove_13 b  x1 v)) : gG E m_X2_remove d Q 0 0 (rS v) 13 [(0, .ref (gX E + (b + 10))), (1, .int x1)] [] := by
  refine g_aload_n 0 dX2_remove_13 rfl ?_
  refine r_get (.ref (gX E + (b + 14))) f_X2_19_X2 rfl (kb_10 hb) (lt_b hb (by decide)) dX2_remove_14 (fun _ => rfl) ?_
  refine g_iload_n 1 dX2_remove_17 rfl ?_
  obtain ⟨h3, hp⟩ := hp
  refine g_callN (rest := []) s_X2_55 rfl (c_X11_closeGap (E := E) (d := d - 1) (b + 14) 12 (by decide) (kb_14 hb) (lt_b hb (by decide)) (by omega) x1 v h3) rfl rfl (Nat.le_of_ble_eq_true rfl) (by omega) (by decide) (by decide) dX2_remove_18 (adN ?_) axN
  exact w_X2_remove_21 b hb hd    x1 (f_X11_closeGap (b + 14) 12 x1 v) hp hQ
def f_X2_remove_5 (b : Nat) (x1 : Int32) (v : gV) : gV := f_X2_remove_13 b  x1 (f_X11_closeGap (b + 12) 12 x1 v)
def p_X2_remove_5 (b : Nat) (x1 : Int32) (v : gV) : Prop := (p_X11_closeGap (b + 12) 12 x1 v) ∧ (p_X2_remove_13 b   x1 (f_X11_closeGap (b + 12) 12 x1 v))
set_option maxHeartbeats 4000000 in
set_option maxRecDepth 100000 in
theorem w_X2_remove_5 {E : gE} {d : Nat} {Q : gO → gS → Prop} (b : Nat) (hb : isBk b) (hd : 3 ≤ d) (x1 : Int32) (v : gV) (hp : p_X2_remove_5 b   x1 v) (hQ : gqV Q (f_X2_remove_5 b  x1 v)) : gG E m_X2_remove d Q 0 0 (rS v) 5 [(0, .ref (gX E + (b + 10))), (1, .int x1)] [] := by
  refine g_aload_n 0 dX2_remove_5 rfl ?_
  refine r_get (.ref (gX E + (b + 12))) f_X2_9_X2 rfl (kb_10 hb) (lt_b hb (by decide)) dX2_remove_6 (fun _ => rfl) ?_
  refine g_iload_n 1 dX2_remove_9 rfl ?_
  obtain ⟨h2, hp⟩ := hp
  refine g_callN (rest := []) s_X2_55 rfl (c_X11_closeGap (E := E) (d := d - 1) (b + 12) 12 (by decide) (kb_12 hb) (lt_b hb (by decide)) (by omega) x1 v h2) rfl rfl (Nat.le_of_ble_eq_true rfl) (by omega) (by decide) (by decide) dX2_remove_10 (adN ?_) axN
  exact w_X2_remove_13 b hb hd    x1 (f_X11_closeGap (b + 12) 12 x1 v) hp hQ
def f_X2_remove_0 (b : Nat) (x1 : Int32) (v : gV) : gV := f_X2_remove_5 b  x1 (f_X6_removeId_C b x1 v)
def p_X2_remove_0 (b : Nat) (x1 : Int32) (v : gV) : Prop := (p_X6_removeId_C b x1 v) ∧ (p_X2_remove_5 b   x1 (f_X6_removeId_C b x1 v))
set_option maxHeartbeats 4000000 in
set_option maxRecDepth 100000 in
theorem w_X2_remove_0 {E : gE} {d : Nat} {Q : gO → gS → Prop} (b : Nat) (hb : isBk b) (hd : 3 ≤ d) (x1 : Int32) (v : gV) (hp : p_X2_remove_0 b   x1 v) (hQ : gqV Q (f_X2_remove_0 b  x1 v)) : gG E m_X2_remove d Q 0 0 (rS v) 0 [(0, .ref (gX E + (b + 10))), (1, .int x1)] [] := by
  refine g_aload_n 0 dX2_remove_0 rfl ?_
  refine g_iload_n 1 dX2_remove_1 rfl ?_
  obtain ⟨h1, hp⟩ := hp
  refine g_callU (rest := []) s_X2_51_X2 rfl (c_X6_removeId_C (E := E) (d := d - 1) b hb (by omega) x1 v h1) (kb_10 hb) (lt_b hb (by decide)) rfl rfl (Nat.le_of_ble_eq_true rfl) (by omega) (by decide) (by decide) dX2_remove_2 (adN ?_) axN
  exact w_X2_remove_5 b hb hd    x1 (f_X6_removeId_C b x1 v) hp hQ
def f_X2_remove (b : Nat) (x1 : Int32) (v : gV) : gV := f_X2_remove_0 b x1 v
def p_X2_remove (b : Nat) (x1 : Int32) (v : gV) : Prop := p_X2_remove_0 b x1 v
theorem c_X2_remove {E : gE} {d : Nat} (b : Nat) (hb : isBk b) (hd : 3 ≤ d) (x1 : Int32) (v : gV) (hp : p_X2_remove b x1 v) : CT E m_X2_remove d 0 0 [.ref (gX E + (b + 10)), .int x1] (rS v) (Cq (.inl none) (f_X2_remove b x1 v)) := CT.of ok_X2_remove rfl (Nat.le_of_ble_eq_true rfl) (w_X2_remove_0 b hb hd x1 v hp ⟨rfl, rfl⟩)
def f_X4_cheapestBySets_40 (b : Nat) (K7 : Int32 → Int32 → Int32 → Int32 → gV → Int32)  (x1 : Int32) (x2 : Int32) (x3 : Int32) (x4 : Int32) (v : gV) : Int32 := K7 x1 x2 x3 (x4 + 1) v
def p_X4_cheapestBySets_40 (b : Nat) (K7 : Int32 → Int32 → Int32 → Int32 → gV → Int32)  (PK7 : Int32 → Int32 → Int32 → Int32 → gV → Prop)  (x1 : Int32) (x2 : Int32) (x3 : Int32) (x4 : Int32) (v : gV) : Prop := PK7 x1 x2 x3 (x4 + 1) v
set_option maxHeartbeats 4000000 in
set_option maxRecDepth 100000 in
theorem w_X4_cheapestBySets_40 {E : gE} {d : Nat} {Q : gO → gS → Prop} (b : Nat) (hb : isBk b) (hd : 3 ≤ d) (K7 : Int32 → Int32 → Int32 → Int32 → gV → Int32)  (PK7 : Int32 → Int32 → Int32 → Int32 → gV → Prop)  (hK7 : ∀ (x1 : Int32) (x2 : Int32) (x3 : Int32) (x4 : Int32) (v : gV), PK7 x1 x2 x3 x4 v → gqI Q v (K7 x1 x2 x3 x4 v) → gG E m_X4_cheapestBySets d Q 0 0 (rS v) 7 [(0, .ref (gX E + (b + 45))), (1, .int x1), (2, .int x2), (3, .int x3), (4, .int x4)] [])  (x1 : Int32) (x2 : Int32) (x3 : Int32) (x4 : Int32) (v : gV) (hp : p_X4_cheapestBySets_40 b K7 PK7 x1 x2 x3 x4 v) (hQ : gqI Q v (f_X4_cheapestBySets_40 b K7 x1 x2 x3 x4 v)) : gG E m_X4_cheapestBySets d Q 0 0 (rS v) 40 [(0, .ref (gX E + (b + 45))), (1, .int x1), (2, .int x2), (3, .int x3), (4, .int x4)] [] := by
  refine g_iinc 4 (x4 + 1) [(4, .int (x4 + 1)), (0, .ref (gX E + (b + 45))), (1, .int x1), (2, .int x2), (3, .int x3)] dX4_cheapestBySets_40 rfl rfl (by decide) rfl ?_
  refine g_goto 7 dX4_cheapestBySets_43 (by decide) ?_
  refine g_lv (lv' := [(0, .ref (gX E + (b + 45))), (1, .int x1), (2, .int x2), (3, .int x3), (4, .int (x4 + 1))]) [1, 2, 3, 4, 0] rfl ?_
  exact hK7 x1 x2 x3 (x4 + 1) v hp hQ
def f_X4_cheapestBySets_7 (b : Nat) : Nat → Int32 → Int32 → Int32 → Int32 → gV → Int32
  | 0, _, _, _, _, v => 0
  | n + 1, x1, x2, x3, x4, v => if ((1 : Int32) <<< ((v.1 (b + 45) 4) &&& 31)) ≤ x4 then x3 else (if (f_X4_isCover b x4 x1 x2 v) = 0 then (f_X4_cheapestBySets_40 b (fun x1 x2 x3 x4 v => f_X4_cheapestBySets_7 b  n x1 x2 x3 x4 v) x1 x2 x3 x4 v) else (f_X4_cheapestBySets_40 b (fun x1 x2 x3 x4 v => f_X4_cheapestBySets_7 b  n x1 x2 x3 x4 v) x1 x2 (if (f_X4_priceOfSet b x4 v) < x3 then (f_X4_priceOfSet b x4 v) else x3) x4 v))
def p_X4_cheapestBySets_7 (b : Nat) : Nat → Int32 → Int32 → Int32 → Int32 → gV → Prop
  | 0, _, _, _, _, _ => False
  | n + 1, x1, x2, x3, x4, v => ((((1 : Int32) <<< ((v.1 (b + 45) 4) &&& 31)) ≤ x4) → (True)) ∧ (¬ (((1 : Int32) <<< ((v.1 (b + 45) 4) &&& 31)) ≤ x4) → ((p_X4_isCover b x4 x1 x2 v) ∧ ((((f_X4_isCover b x4 x1 x2 v) = 0) → (p_X4_cheapestBySets_40 b (fun x1 x2 x3 x4 v => f_X4_cheapestBySets_7 b  n x1 x2 x3 x4 v) (fun x1 x2 x3 x4 v => p_X4_cheapestBySets_7 b   n x1 x2 x3 x4 v) x1 x2 x3 x4 v)) ∧ (¬ ((f_X4_isCover b x4 x1 x2 v) = 0) → ((p_X4_priceOfSet b x4 v) ∧ (p_X4_cheapestBySets_40 b (fun x1 x2 x3 x4 v => f_X4_cheapestBySets_7 b  n x1 x2 x3 x4 v) (fun x1 x2 x3 x4 v => p_X4_cheapestBySets_7 b   n x1 x2 x3 x4 v) x1 x2 (if (f_X4_priceOfSet b x4 v) < x3 then (f_X4_priceOfSet b x4 v) else x3) x4 v))))))
set_option maxHeartbeats 4000000 in
set_option maxRecDepth 100000 in
theorem w_X4_cheapestBySets_7 {E : gE} {d : Nat} {Q : gO → gS → Prop} (b : Nat) (hb : isBk b) (hd : 3 ≤ d) : ∀ (n : Nat) (x1 : Int32) (x2 : Int32) (x3 : Int32) (x4 : Int32) (v : gV), p_X4_cheapestBySets_7 b   n x1 x2 x3 x4 v → gqI Q v (f_X4_cheapestBySets_7 b  n x1 x2 x3 x4 v) → gG E m_X4_cheapestBySets d Q 0 0 (rS v) 7 [(0, .ref (gX E + (b + 45))), (1, .int x1), (2, .int x2), (3, .int x3), (4, .int x4)] [] := by
  intro n
  induction n with
  | zero => intro x1 x2 x3 x4 v hp; exact hp.elim
  | succ n ih =>
    intro x1 x2 x3 x4 v hp hQ
    refine g_iload 4 dX4_cheapestBySets_7 rfl ?_
    refine g_iconst dX4_cheapestBySets_9 (1 : Int32) (by decide) ?_
    refine g_aload_n 0 dX4_cheapestBySets_10 rfl ?_
    refine r_get (.int (v.1 (b + 45) 4)) f_X4_28_X4 rfl (kb_45 hb) (lt_b hb (by decide)) dX4_cheapestBySets_11 (fun _ => rfl) ?_
    refine g_ishl dX4_cheapestBySets_14 ?_
    refine g_icmp_ge 46 dX4_cheapestBySets_15 (by decide) (fun h1 => ?_) (fun h1 => ?_)
    · have hQ := qp (P := gqI Q v) h1 hQ
      have hp := hp.1 h1
      refine g_iload_n 3 dX4_cheapestBySets_46 rfl ?_
      exact g_iret rfl dX4_cheapestBySets_47 hQ
    · have hQ := qn (P := gqI Q v) h1 hQ
      have hp := hp.2 h1
      refine g_aload_n 0 dX4_cheapestBySets_18 rfl ?_
      refine g_iload 4 dX4_cheapestBySets_19 rfl ?_
      refine g_iload_n 1 dX4_cheapestBySets_21 rfl ?_
      refine g_iload_n 2 dX4_cheapestBySets_22 rfl ?_
      obtain ⟨h2, hp⟩ := hp
      refine g_callV (rest := []) s_X4_55_X4 rfl (c_X4_isCover (E := E) (d := d - 1) b hb (by omega) x4 x1 x2 v h2) (kb_45 hb) (lt_b hb (by decide)) rfl rfl (Nat.le_of_ble_eq_true rfl) (by omega) (by decide) (by decide) dX4_cheapestBySets_23 (adV ?_) axN
      refine g_if_eq 40 dX4_cheapestBySets_26 (by decide) (fun h3 => ?_) (fun h3 => ?_)
      · have hQ := qp (P := gqI Q v) h3 hQ
        have hp := hp.1 h3
        exact w_X4_cheapestBySets_40 b hb hd (fun x1 x2 x3 x4 v => f_X4_cheapestBySets_7 b  n x1 x2 x3 x4 v) (fun x1 x2 x3 x4 v => p_X4_cheapestBySets_7 b   n x1 x2 x3 x4 v) ih x1 x2 x3 x4 v hp hQ
      · have hQ := qn (P := gqI Q v) h3 hQ
        have hp := hp.2 h3
        refine g_iload_n 3 dX4_cheapestBySets_29 rfl ?_
        refine g_aload_n 0 dX4_cheapestBySets_30 rfl ?_
        refine g_iload 4 dX4_cheapestBySets_31 rfl ?_
        obtain ⟨h4, hp⟩ := hp
        refine g_callV (rest := [.int x3]) s_X4_59_X4 rfl (c_X4_priceOfSet (E := E) (d := d - 1) b hb (by omega) x4 v h4) (kb_45 hb) (lt_b hb (by decide)) rfl rfl (Nat.le_of_ble_eq_true rfl) (by omega) (by decide) (by decide) dX4_cheapestBySets_33 (adV ?_) axN
        refine r_mmin mw_X4_50 rfl (Nat.le_of_ble_eq_true rfl) (by omega) dX4_cheapestBySets_36 ?_
        refine g_istore_n [(3, .int ((if (f_X4_priceOfSet b x4 v) < x3 then (f_X4_priceOfSet b x4 v) else x3))), (0, .ref (gX E + (b + 45))), (1, .int x1), (2, .int x2), (4, .int x4)] dX4_cheapestBySets_39 rfl (by decide) rfl ?_
        refine g_lv (lv' := [(0, .ref (gX E + (b + 45))), (1, .int x1), (2, .int x2), (3, .int ((if (f_X4_priceOfSet b x4 v) < x3 then (f_X4_priceOfSet b x4 v) else x3))), (4, .int x4)]) [1, 2, 3, 0, 4] rfl ?_
        exact w_X4_cheapestBySets_40 b hb hd (fun x1 x2 x3 x4 v => f_X4_cheapestBySets_7 b  n x1 x2 x3 x4 v) (fun x1 x2 x3 x4 v => p_X4_cheapestBySets_7 b   n x1 x2 x3 x4 v) ih x1 x2 (if (f_X4_priceOfSet b x4 v) < x3 then (f_X4_priceOfSet b x4 v) else x3) x4 v hp hQ
def f_X4_cheapestBySets_0 (b : Nat) (x1 : Int32) (x2 : Int32) (v : gV) : Int32 := f_X4_cheapestBySets_7 b  5000 x1 x2 (1000 : Int32) (0 : Int32) v
def p_X4_cheapestBySets_0 (b : Nat) (x1 : Int32) (x2 : Int32) (v : gV) : Prop := p_X4_cheapestBySets_7 b   5000 x1 x2 (1000 : Int32) (0 : Int32) v
set_option maxHeartbeats 4000000 in
set_option maxRecDepth 100000 in
theorem w_X4_cheapestBySets_0 {E : gE} {d : Nat} {Q : gO → gS → Prop} (b : Nat) (hb : isBk b) (hd : 3 ≤ d) (x1 : Int32) (x2 : Int32) (v : gV) (hp : p_X4_cheapestBySets_0 b   x1 x2 v) (hQ : gqI Q v (f_X4_cheapestBySets_0 b  x1 x2 v)) : gG E m_X4_cheapestBySets d Q 0 0 (rS v) 0 [(0, .ref (gX E + (b + 45))), (1, .int x1), (2, .int x2)] [] := by
  refine g_sipush dX4_cheapestBySets_0 (1000 : Int32) (by decide) ?_
  refine g_istore_n [(3, .int ((1000 : Int32))), (0, .ref (gX E + (b + 45))), (1, .int x1), (2, .int x2)] dX4_cheapestBySets_3 rfl (by decide) rfl ?_
  refine g_iconst dX4_cheapestBySets_4 (0 : Int32) (by decide) ?_
  refine g_istore [(4, .int ((0 : Int32))), (3, .int ((1000 : Int32))), (0, .ref (gX E + (b + 45))), (1, .int x1), (2, .int x2)] dX4_cheapestBySets_5 (by decide) rfl ?_
  refine g_lv (lv' := [(0, .ref (gX E + (b + 45))), (1, .int x1), (2, .int x2), (3, .int ((1000 : Int32))), (4, .int ((0 : Int32)))]) [2, 3, 4, 1, 0] rfl ?_
  exact w_X4_cheapestBySets_7 b hb hd    5000 x1 x2 (1000 : Int32) (0 : Int32) v hp hQ
def f_X4_cheapestBySets (b : Nat) (x1 : Int32) (x2 : Int32) (v : gV) : Int32 := f_X4_cheapestBySets_0 b x1 x2 v
def p_X4_cheapestBySets (b : Nat) (x1 : Int32) (x2 : Int32) (v : gV) : Prop := p_X4_cheapestBySets_0 b x1 x2 v
theorem c_X4_cheapestBySets {E : gE} {d : Nat} (b : Nat) (hb : isBk b) (hd : 3 ≤ d) (x1 : Int32) (x2 : Int32) (v : gV) (hp : p_X4_cheapestBySets b x1 x2 v) : CT E m_X4_cheapestBySets d 0 0 [.ref (gX E + (b + 45)), .int x1, .int x2] (rS v) (Cq (.inl (some (.int (f_X4_cheapestBySets b x1 x2 v)))) v) := CT.of ok_X4_cheapestBySets rfl (Nat.le_of_ble_eq_true rfl) (w_X4_cheapestBySets_0 b hb hd x1 x2 v hp ⟨rfl, rfl⟩)
def f_X5_copyFrom_71 (b : Nat) (b2 : Nat)  (v : gV) : gV := v
def p_X5_copyFrom_71 (b : Nat) (b2 : Nat)  (v : gV) : Prop := True
set_option maxHeartbeats 4000000 in
set_option maxRecDepth 100000 in
theorem w_X5_copyFrom_71 {E : gE} {d : Nat} {Q : gO → gS → Prop} (b : Nat) (b2 : Nat) (hb : isBk b) (hb2 : isBk b2) (hd : 4 ≤ d)  (v : gV) (hp : p_X5_copyFrom_71 b b2    v) (hQ : gqV Q (f_X5_copyFrom_71 b b2   v)) : gG E m_X5_copyFrom d Q 0 0 (rS v) 71 [] [] := by
  exact g_vret rfl dX5_copyFrom_71 hQ
def f_X5_copyFrom_60 (b : Nat) (b2 : Nat)  (v : gV) : gV := f_X5_copyFrom_71 b b2   (f_X11_copyRow (b2 + 8) 8 (b + 8) 8 v)
def p_X5_copyFrom_60 (b : Nat) (b2 : Nat)  (v : gV) : Prop := (p_X11_copyRow (b2 + 8) 8 (b + 8) 8 v) ∧ (p_X5_copyFrom_71 b b2    (f_X11_copyRow (b2 + 8) 8 (b + 8) 8 v))
set_option maxHeartbeats 4000000 in
set_option maxRecDepth 100000 in
theorem w_X5_copyFrom_60 {E : gE} {d : Nat} {Q : gO → gS → Prop} (b : Nat) (b2 : Nat) (hb : isBk b) (hb2 : isBk b2) (hd : 4 ≤ d)  (v : gV) (hp : p_X5_copyFrom_60 b b2    v) (hQ : gqV Q (f_X5_copyFrom_60 b b2   v)) : gG E m_X5_copyFrom d Q 0 0 (rS v) 60 [(0, .ref (gX E + (b + 1))), (1, .ref (gX E + (b2 + 1)))] [] := by
  refine g_aload_n 1 dX5_copyFrom_60 rfl ?_
  refine r_get (.ref (gX E + (b2 + 8))) f_X5_27_X5 rfl (kb_1 hb2) (lt_b hb2 (by decide)) dX5_copyFrom_61 (fun _ => rfl) ?_
  refine g_aload_n 0 dX5_copyFrom_64 rfl ?_
  refine r_get (.ref (gX E + (b + 8))) f_X5_27_X5 rfl (kb_1 hb) (lt_b hb (by decide)) dX5_copyFrom_65 (fun _ => rfl) ?_
  obtain ⟨h7, hp⟩ := hp
  refine g_callN (rest := []) s_X5_38 rfl (c_X11_copyRow (E := E) (d := d - 1) (b2 + 8) 8 (b + 8) 8 (by decide) (kb_8 hb2) (lt_b hb2 (by decide)) (by decide) (kb_8 hb) (lt_b hb (by decide)) (by omega)  v h7) rfl rfl (Nat.le_of_ble_eq_true rfl) (by omega) (by decide) (by decide) dX5_copyFrom_68 (adN ?_) axN
  refine g_lv (lv' := []) [] rfl ?_
  exact w_X5_copyFrom_71 b b2 hb hb2 hd     (f_X11_copyRow (b2 + 8) 8 (b + 8) 8 v) hp hQ
def f_X5_copyFrom_49 (b : Nat) (b2 : Nat)  (v : gV) : gV := f_X5_copyFrom_60 b b2   (f_X11_copyRow (b2 + 7) 8 (b + 7) 8 v)
def p_X5_copyFrom_49 (b : Nat) (b2 : Nat)  (v : gV) : Prop := (p_X11_copyRow (b2 + 7) 8 (b + 7) 8 v) ∧ (p_X5_copyFrom_60 b b2    (f_X11_copyRow (b2 + 7) 8 (b + 7) 8 v))
set_option maxHeartbeats 4000000 in
set_option maxRecDepth 100000 in
theorem w_X5_copyFrom_49 {E : gE} {d : Nat} {Q : gO → gS → Prop} (b : Nat) (b2 : Nat) (hb : isBk b) (hb2 : isBk b2) (hd : 4 ≤ d)  (v : gV) (hp : p_X5_copyFrom_49 b b2    v) (hQ : gqV Q (f_X5_copyFrom_49 b b2   v)) : gG E m_X5_copyFrom d Q 0 0 (rS v) 49 [(0, .ref (gX E + (b + 1))), (1, .ref (gX E + (b2 + 1)))] [] := by
  refine g_aload_n 1 dX5_copyFrom_49 rfl ?_
  refine r_get (.ref (gX E + (b2 + 7))) f_X5_24_X5 rfl (kb_1 hb2) (lt_b hb2 (by decide)) dX5_copyFrom_50 (fun _ => rfl) ?_
  refine g_aload_n 0 dX5_copyFrom_53 rfl ?_
  refine r_get (.ref (gX E + (b + 7))) f_X5_24_X5 rfl (kb_1 hb) (lt_b hb (by decide)) dX5_copyFrom_54 (fun _ => rfl) ?_
  obtain ⟨h6, hp⟩ := hp
  refine g_callN (rest := []) s_X5_38 rfl (c_X11_copyRow (E := E) (d := d - 1) (b2 + 7) 8 (b + 7) 8 (by decide) (kb_7 hb2) (lt_b hb2 (by decide)) (by decide) (kb_7 hb) (lt_b hb (by decide)) (by omega)  v h6) rfl rfl (Nat.le_of_ble_eq_true rfl) (by omega) (by decide) (by decide) dX5_copyFrom_57 (adN ?_) axN
  exact w_X5_copyFrom_60 b b2 hb hb2 hd     (f_X11_copyRow (b2 + 7) 8 (b + 7) 8 v) hp hQ
def f_X5_copyFrom_38 (b : Nat) (b2 : Nat)  (v : gV) : gV := f_X5_copyFrom_49 b b2   (f_X11_copyRow (b2 + 6) 8 (b + 6) 8 v)
def p_X5_copyFrom_38 (b : Nat) (b2 : Nat)  (v : gV) : Prop := (p_X11_copyRow (b2 + 6) 8 (b + 6) 8 v) ∧ (p_X5_copyFrom_49 b b2    (f_X11_copyRow (b2 + 6) 8 (b + 6) 8 v))
set_option maxHeartbeats 4000000 in
set_option maxRecDepth 100000 in
theorem w_X5_copyFrom_38 {E : gE} {d : Nat} {Q : gO → gS → Prop} (b : Nat) (b2 : Nat) (hb : isBk b) (hb2 : isBk b2) (hd : 4 ≤ d)  (v : gV) (hp : p_X5_copyFrom_38 b b2    v) (hQ : gqV Q (f_X5_copyFrom_38 b b2   v)) : gG E m_X5_copyFrom d Q 0 0 (rS v) 38 [(0, .ref (gX E + (b + 1))), (1, .ref (gX E + (b2 + 1)))] [] := by
  refine g_aload_n 1 dX5_copyFrom_38 rfl ?_
  refine r_get (.ref (gX E + (b2 + 6))) f_X5_21_X5 rfl (kb_1 hb2) (lt_b hb2 (by decide)) dX5_copyFrom_39 (fun _ => rfl) ?_
  refine g_aload_n 0 dX5_copyFrom_42 rfl ?_
  refine r_get (.ref (gX E + (b + 6))) f_X5_21_X5 rfl (kb_1 hb) (lt_b hb (by decide)) dX5_copyFrom_43 (fun _ => rfl) ?_
  obtain ⟨h5, hp⟩ := hp
  refine g_callN (rest := []) s_X5_38 rfl (c_X11_copyRow (E := E) (d := d - 1) (b2 + 6) 8 (b + 6) 8 (by decide) (kb_6 hb2) (lt_b hb2 (by decide)) (by decide) (kb_6 hb) (lt_b hb (by decide)) (by omega)  v h5) rfl rfl (Nat.le_of_ble_eq_true rfl) (by omega) (by decide) (by decide) dX5_copyFrom_46 (adN ?_) axN
  exact w_X5_copyFrom_49 b b2 hb hb2 hd     (f_X11_copyRow (b2 + 6) 8 (b + 6) 8 v) hp hQ
def f_X5_copyFrom_27 (b : Nat) (b2 : Nat)  (v : gV) : gV := f_X5_copyFrom_38 b b2   (f_X11_copyRow (b2 + 5) 8 (b + 5) 8 v)
def p_X5_copyFrom_27 (b : Nat) (b2 : Nat)  (v : gV) : Prop := (p_X11_copyRow (b2 + 5) 8 (b + 5) 8 v) ∧ (p_X5_copyFrom_38 b b2    (f_X11_copyRow (b2 + 5) 8 (b + 5) 8 v))
set_option maxHeartbeats 4000000 in
set_option maxRecDepth 100000 in
theorem w_X5_copyFrom_27 {E : gE} {d : Nat} {Q : gO → gS → Prop} (b : Nat) (b2 : Nat) (hb : isBk b) (hb2 : isBk b2) (hd : 4 ≤ d)  (v : gV) (hp : p_X5_copyFrom_27 b b2    v) (hQ : gqV Q (f_X5_copyFrom_27 b b2   v)) : gG E m_X5_copyFrom d Q 0 0 (rS v) 27 [(0, .ref (gX E + (b + 1))), (1, .ref (gX E + (b2 + 1)))] [] := by
  refine g_aload_n 1 dX5_copyFrom_27 rfl ?_
  refine r_get (.ref (gX E + (b2 + 5))) f_X5_18_X5 rfl (kb_1 hb2) (lt_b hb2 (by decide)) dX5_copyFrom_28 (fun _ => rfl) ?_
  refine g_aload_n 0 dX5_copyFrom_31 rfl ?_
  refine r_get (.ref (gX E + (b + 5))) f_X5_18_X5 rfl (kb_1 hb) (lt_b hb (by decide)) dX5_copyFrom_32 (fun _ => rfl) ?_
  obtain ⟨h4, hp⟩ := hp
  refine g_callN (rest := []) s_X5_38 rfl (c_X11_copyRow (E := E) (d := d - 1) (b2 + 5) 8 (b + 5) 8 (by decide) (kb_5 hb2) (lt_b hb2 (by decide)) (by decide) (kb_5 hb) (lt_b hb (by decide)) (by omega)  v h4) rfl rfl (Nat.le_of_ble_eq_true rfl) (by omega) (by decide) (by decide) dX5_copyFrom_35 (adN ?_) axN
  exact w_X5_copyFrom_38 b b2 hb hb2 hd     (f_X11_copyRow (b2 + 5) 8 (b + 5) 8 v) hp hQ
def f_X5_copyFrom_16 (b : Nat) (b2 : Nat)  (v : gV) : gV := f_X5_copyFrom_27 b b2   (f_X11_copyRow (b2 + 4) 8 (b + 4) 8 v)
def p_X5_copyFrom_16 (b : Nat) (b2 : Nat)  (v : gV) : Prop := (p_X11_copyRow (b2 + 4) 8 (b + 4) 8 v) ∧ (p_X5_copyFrom_27 b b2    (f_X11_copyRow (b2 + 4) 8 (b + 4) 8 v))
set_option maxHeartbeats 4000000 in
set_option maxRecDepth 100000 in
theorem w_X5_copyFrom_16 {E : gE} {d : Nat} {Q : gO → gS → Prop} (b : Nat) (b2 : Nat) (hb : isBk b) (hb2 : isBk b2) (hd : 4 ≤ d)  (v : gV) (hp : p_X5_copyFrom_16 b b2    v) (hQ : gqV Q (f_X5_copyFrom_16 b b2   v)) : gG E m_X5_copyFrom d Q 0 0 (rS v) 16 [(0, .ref (gX E + (b + 1))), (1, .ref (gX E + (b2 + 1)))] [] := by
  refine g_aload_n 1 dX5_copyFrom_16 rfl ?_
  refine r_get (.ref (gX E + (b2 + 4))) f_X5_15_X5 rfl (kb_1 hb2) (lt_b hb2 (by decide)) dX5_copyFrom_17 (fun _ => rfl) ?_
  refine g_aload_n 0 dX5_copyFrom_20 rfl ?_
  refine r_get (.ref (gX E + (b + 4))) f_X5_15_X5 rfl (kb_1 hb) (lt_b hb (by decide)) dX5_copyFrom_21 (fun _ => rfl) ?_
  obtain ⟨h3, hp⟩ := hp
  refine g_callN (rest := []) s_X5_38 rfl (c_X11_copyRow (E := E) (d := d - 1) (b2 + 4) 8 (b + 4) 8 (by decide) (kb_4 hb2) (lt_b hb2 (by decide)) (by decide) (kb_4 hb) (lt_b hb (by decide)) (by omega)  v h3) rfl rfl (Nat.le_of_ble_eq_true rfl) (by omega) (by decide) (by decide) dX5_copyFrom_24 (adN ?_) axN
  exact w_X5_copyFrom_27 b b2 hb hb2 hd     (f_X11_copyRow (b2 + 4) 8 (b + 4) 8 v) hp hQ
def f_X5_copyFrom_5 (b : Nat) (b2 : Nat)  (v : gV) : gV := f_X5_copyFrom_16 b b2   (f_X11_copyRow (b2 + 3) 8 (b + 3) 8 v)
def p_X5_copyFrom_5 (b : Nat) (b2 : Nat)  (v : gV) : Prop := (p_X11_copyRow (b2 + 3) 8 (b + 3) 8 v) ∧ (p_X5_copyFrom_16 b b2    (f_X11_copyRow (b2 + 3) 8 (b + 3) 8 v))
set_option maxHeartbeats 4000000 in
set_option maxRecDepth 100000 in
theorem w_X5_copyFrom_5 {E : gE} {d : Nat} {Q : gO → gS → Prop} (b : Nat) (b2 : Nat) (hb : isBk b) (hb2 : isBk b2) (hd : 4 ≤ d)  (v : gV) (hp : p_X5_copyFrom_5 b b2    v) (hQ : gqV Q (f_X5_copyFrom_5 b b2   v)) : gG E m_X5_copyFrom d Q 0 0 (rS v) 5 [(0, .ref (gX E + (b + 1))), (1, .ref (gX E + (b2 + 1)))] [] := by
  refine g_aload_n 1 dX5_copyFrom_5 rfl ?_
  refine r_get (.ref (gX E + (b2 + 3))) f_X5_9_X5 rfl (kb_1 hb2) (lt_b hb2 (by decide)) dX5_copyFrom_6 (fun _ => rfl) ?_
  refine g_aload_n 0 dX5_copyFrom_9 rfl ?_
  refine r_get (.ref (gX E + (b + 3))) f_X5_9_X5 rfl (kb_1 hb) (lt_b hb (by decide)) dX5_copyFrom_10 (fun _ => rfl) ?_
  obtain ⟨h2, hp⟩ := hp
  refine g_callN (rest := []) s_X5_38 rfl (c_X11_copyRow (E := E) (d := d - 1) (b2 + 3) 8 (b + 3) 8 (by decide) (kb_3 hb2) (lt_b hb2 (by decide)) (by decide) (kb_3 hb) (lt_b hb (by decide)) (by omega)  v h2) rfl rfl (Nat.le_of_ble_eq_true rfl) (by omega) (by decide) (by decide) dX5_copyFrom_13 (adN ?_) axN
  exact w_X5_copyFrom_16 b b2 hb hb2 hd     (f_X11_copyRow (b2 + 3) 8 (b + 3) 8 v) hp hQ
def f_X5_copyFrom_0 (b : Nat) (b2 : Nat)  (v : gV) : gV := f_X5_copyFrom_5 b b2   (f_X6_copyIds_P b b2 v)
def p_X5_copyFrom_0 (b : Nat) (b2 : Nat)  (v : gV) : Prop := (p_X6_copyIds_P b b2 v) ∧ (p_X5_copyFrom_5 b b2    (f_X6_copyIds_P b b2 v))
set_option maxHeartbeats 4000000 in
set_option maxRecDepth 100000 in
theorem w_X5_copyFrom_0 {E : gE} {d : Nat} {Q : gO → gS → Prop} (b : Nat) (b2 : Nat) (hb : isBk b) (hb2 : isBk b2) (hd : 4 ≤ d)  (v : gV) (hp : p_X5_copyFrom_0 b b2    v) (hQ : gqV Q (f_X5_copyFrom_0 b b2   v)) : gG E m_X5_copyFrom d Q 0 0 (rS v) 0 [(0, .ref (gX E + (b + 1))), (1, .ref (gX E + (b2 + 1)))] [] := by
  refine g_aload_n 0 dX5_copyFrom_0 rfl ?_
  refine g_aload_n 1 dX5_copyFrom_1 rfl ?_
  obtain ⟨h1, hp⟩ := hp
  refine g_callU (rest := []) s_X5_34_X5 rfl (c_X6_copyIds_P (E := E) (d := d - 1) b b2 hb hb2 (by omega)  v h1) (kb_1 hb) (lt_b hb (by decide)) rfl rfl (Nat.le_of_ble_eq_true rfl) (by omega) (by decide) (by decide) dX5_copyFrom_2 (adN ?_) axN
  exact w_X5_copyFrom_5 b b2 hb hb2 hd     (f_X6_copyIds_P b b2 v) hp hQ
def f_X5_copyFrom (b : Nat) (b2 : Nat)  (v : gV) : gV := f_X5_copyFrom_0 b b2  v
def p_X5_copyFrom (b : Nat) (b2 : Nat)  (v : gV) : Prop := p_X5_copyFrom_0 b b2  v
theorem c_X5_copyFrom {E : gE} {d : Nat} (b : Nat) (b2 : Nat) (hb : isBk b) (hb2 : isBk b2) (hd : 4 ≤ d)  (v : gV) (hp : p_X5_copyFrom b b2  v) : CT E m_X5_copyFrom d 0 0 [.ref (gX E + (b + 1)), .ref (gX E + (b2 + 1))] (rS v) (Cq (.inl none) (f_X5_copyFrom b b2  v)) := CT.of ok_X5_copyFrom rfl (Nat.le_of_ble_eq_true rfl) (w_X5_copyFrom_0 b b2 hb hb2 hd  v hp ⟨rfl, rfl⟩)
def f_X5_add_97 (b : Nat) (x5 : Int32) (v : gV) : (Int32 ⊕ String) × gV := (Sum.inl x5, v)
def p_X5_add_97 (b : Nat) (x5 : Int32) (v : gV) : Prop := True
set_option maxHeartbeats 4000000 in
set_option maxRecDepth 100000 in
theorem w_X5_add_97 {E : gE} {d : Nat} {Q : gO → gS → Prop} (b : Nat) (hb : isBk b) (hd : 9 ≤ d) (x5 : Int32) (v : gV) (hp : p_X5_add_97 b   x5 v) (hQ : gqTIV Q (f_X5_add_97 b  x5 v)) : gG E m_X5_add d Q 0 0 (rS v) 97 [(5, .int x5)] [] := by
  refine g_iload 0 dX5_add_97 rfl ?_
  exact g_iret rfl dX5_add_99 hQ
def f_X5_add_89 (b : Nat) (x5 : Int32) (v : gV) : (Int32 ⊕ String) × gV := f_X5_add_97 b  x5 (vM v (b + 8) x5.toNatClampNeg (0 : Int32))
def p_X5_add_89 (b : Nat) (x5 : Int32) (v : gV) : Prop := (vp_in x5 8) ∧ (p_X5_add_97 b   x5 (vM v (b + 8) x5.toNatClampNeg (0 : Int32)))
set_option maxHeartbeats 4000000 in
set_option maxRecDepth 100000 in
theorem w_X5_add_89 {E : gE} {d : Nat} {Q : gO → gS → Prop} (b : Nat) (hb : isBk b) (hd : 9 ≤ d) (x5 : Int32) (v : gV) (hp : p_X5_add_89 b   x5 v) (hQ : gqTIV Q (f_X5_add_89 b  x5 v)) : gG E m_X5_add d Q 0 0 (rS v) 89 [(0, .ref (gX E + (b + 1))), (5, .int x5)] [] := by
  refine g_aload_n 0 dX5_add_89 rfl ?_
  refine r_get (.ref (gX E + (b + 8))) f_X5_27_X5 rfl (kb_1 hb) (lt_b hb (by decide)) dX5_add_90 (fun _ => rfl) ?_
  refine g_iload 1 dX5_add_93 rfl ?_
  refine g_iconst dX5_add_95 (0 : Int32) (by decide) ?_
  obtain ⟨h18, hp⟩ := hp
  refine r_iast (kb_8 hb) (lt_b hb (by decide)) h18 dX5_add_96 ?_
  refine g_lv (lv' := [(5, .int x5)]) [1] rfl ?_
  exact w_X5_add_97 b hb hd    x5 (vM v (b + 8) x5.toNatClampNeg (0 : Int32)) hp hQ
def f_X5_add_65 (b : Nat) (x1 : Int32) (x2 : Int32) (x3 : Int32) (x5 : Int32) (v : gV) : (Int32 ⊕ String) × gV := f_X5_add_89 b  x5 (vM v (b + 7) x5.toNatClampNeg (if (1 : Int32) < (((((x1 * x2) * x3) + (80 : Int32)) - (1 : Int32)) / (80 : Int32)) then (((((x1 * x2) * x3) + (80 : Int32)) - (1 : Int32)) / (80 : Int32)) else (1 : Int32)))
def p_X5_add_65 (b : Nat) (x1 : Int32) (x2 : Int32) (x3 : Int32) (x5 : Int32) (v : gV) : Prop := (vp_in x5 8) ∧ (p_X5_add_89 b   x5 (vM v (b + 7) x5.toNatClampNeg (if (1 : Int32) < (((((x1 * x2) * x3) + (80 : Int32)) - (1 : Int32)) / (80 : Int32)) then (((((x1 * x2) * x3) + (80 : Int32)) - (1 : Int32)) / (80 : Int32)) else (1 : Int32))))
set_option maxHeartbeats 4000000 in
set_option maxRecDepth 100000 in
theorem w_X5_add_65 {E : gE} {d : Nat} {Q : gO → gS → Prop} (b : Nat) (hb : isBk b) (hd : 9 ≤ d) (x1 : Int32) (x2 : Int32) (x3 : Int32) (x5 : Int32) (v : gV) (hp : p_X5_add_65 b   x1 x2 x3 x5 v) (hQ : gqTIV Q (f_X5_add_65 b  x1 x2 x3 x5 v)) : gG E m_X5_add d Q 0 0 (rS v) 65 [(0, .ref (gX E + (b + 1))), (1, .int x1), (2, .int x2), (3, .int x3), (5, .int x5)] [] := by
  refine g_aload_n 0 dX5_add_65 rfl ?_
  refine r_get (.ref (gX E + (b + 7))) f_X5_24_X5 rfl (kb_1 hb) (lt_b hb (by decide)) dX5_add_66 (fun _ => rfl) ?_
  refine g_iload 4 dX5_add_69 rfl ?_
  refine g_iconst dX5_add_71 (1 : Int32) (by decide) ?_
  refine g_iload_n 1 dX5_add_72 rfl ?_
  refine g_iload_n 2 dX5_add_73 rfl ?_
  refine g_imul dX5_add_74 ?_
  refine g_iload_n 3 dX5_add_75 rfl ?_
  refine g_imul dX5_add_76 ?_
  refine g_bipush dX5_add_77 (80 : Int32) (by decide) ?_
  refine g_iadd dX5_add_79 ?_
  refine g_iconst dX5_add_80 (1 : Int32) (by decide) ?_
  refine g_isub dX5_add_81 ?_
  refine g_bipush dX5_add_82 (80 : Int32) (by decide) ?_
  refine g_idiv dX5_add_84 (by decide) ?_
  refine r_mmax mw_X5_50 rfl (Nat.le_of_ble_eq_true rfl) (by omega) dX5_add_85 ?_
  obtain ⟨h17, hp⟩ := hp
  refine r_iast (kb_7 hb) (lt_b hb (by decide)) h17 dX5_add_88 ?_
  refine g_lv (lv' := [(0, .ref (gX E + (b + 1))), (5, .int x5)]) [0, 4] rfl ?_
  exact w_X5_add_89 b hb hd    x5 (vM v (b + 7) x5.toNatClampNeg (if (1 : Int32) < (((((x1 * x2) * x3) + (80 : Int32)) - (1 : Int32)) / (80 : Int32)) then (((((x1 * x2) * x3) + (80 : Int32)) - (1 : Int32)) / (80 : Int32)) else (1 : Int32))) hp hQ
def f_X5_add_54 (b : Nat) (x1 : Int32) (x2 : Int32) (x3 : Int32) (x4 : Int32) (x5 : Int32) (v : gV) : (Int32 ⊕ String) × gV := f_X5_add_65 b  x1 x2 x3 x5 (vM v (b + 6) x5.toNatClampNeg (x4 + x3))
def p_X5_add_54 (b : Nat) (x1 : Int32) (x2 : Int32) (x3 : Int32) (x4 : Int32) (x5 : Int32) (v : gV) : Prop := (vp_in x5 8) ∧ (p_X5_add_65 b   x1 x2 x3 x5 (vM v (b + 6) x5.toNatClampNeg (x4 + x3)))
set_option maxHeartbeats 4000000 in
set_option maxRecDepth 100000 in
theorem w_X5_add_54 {E : gE} {d : Nat} {Q : gO → gS → Prop} (b : Nat) (hb : isBk b) (hd : 9 ≤ d) (x1 : Int32) (x2 : Int32) (x3 : Int32) (x4 : Int32) (x5 : Int32) (v : gV) (hp : p_X5_add_54 b   x1 x2 x3 x4 x5 v) (hQ : gqTIV Q (f_X5_add_54 b  x1 x2 x3 x4 x5 v)) : gG E m_X5_add d Q 0 0 (rS v) 54 [(0, .ref (gX E + (b + 1))), (1, .int x1), (2, .int x2), (3, .int x3), (4, .int x4), (5, .int x5)] [] := by
  refine g_aload_n 0 dX5_add_54 rfl ?_
  refine r_get (.ref (gX E + (b + 6))) f_X5_21_X5 rfl (kb_1 hb) (lt_b hb (by decide)) dX5_add_55 (fun _ => rfl) ?_
  refine g_iload 5 dX5_add_58 rfl ?_
  refine g_iload 4 dX5_add_60 rfl ?_
  refine g_iload_n 3 dX5_add_62 rfl ?_
  refine g_iadd dX5_add_63 ?_
  obtain ⟨h16, hp⟩ := hp
  refine r_iast (kb_6 hb) (lt_b hb (by decide)) h16 dX5_add_64 ?_
  refine g_lv (lv' := [(0, .ref (gX E + (b + 1))), (1, .int x1), (2, .int x2), (3, .int x3), (5, .int x5)]) [0, 1, 2, 3, 5] rfl ?_
  exact w_X5_add_65 b hb hd    x1 x2 x3 x5 (vM v (b + 6) x5.toNatClampNeg (x4 + x3)) hp hQ
def f_X5_add_46 (b : Nat) (x1 : Int32) (x2 : Int32) (x3 : Int32) (x4 : Int32) (x5 : Int32) (v : gV) : (Int32 ⊕ String) × gV := f_X5_add_54 b  x1 x2 x3 x4 x5 (vM v (b + 5) x5.toNatClampNeg x3)
def p_X5_add_46 (b : Nat) (x1 : Int32) (x2 : Int32) (x3 : Int32) (x4 : Int32) (x5 : Int32) (v : gV) : Prop := (vp_in x5 8) ∧ (p_X5_add_54 b   x1 x2 x3 x4 x5 (vM v (b + 5) x5.toNatClampNeg x3))
set_option maxHeartbeats 4000000 in
set_option maxRecDepth 100000 in
theorem w_X5_add_46 {E : gE} {d : Nat} {Q : gO → gS → Prop} (b : Nat) (hb : isBk b) (hd : 9 ≤ d) (x1 : Int32) (x2 : Int32) (x3 : Int32) (x4 : Int32) (x5 : Int32) (v : gV) (hp : p_X5_add_46 b   x1 x2 x3 x4 x5 v) (hQ : gqTIV Q (f_X5_add_46 b  x1 x2 x3 x4 x5 v)) : gG E m_X5_add d Q 0 0 (rS v) 46 [(0, .ref (gX E + (b + 1))), (1, .int x1), (2, .int x2), (3, .int x3), (4, .int x4), (5, .int x5)] [] := by
  refine g_aload_n 0 dX5_add_46 rfl ?_
  refine r_get (.ref (gX E + (b + 5))) f_X5_18_X5 rfl (kb_1 hb) (lt_b hb (by decide)) dX5_add_47 (fun _ => rfl) ?_
  refine g_iload 5 dX5_add_50 rfl ?_
  refine g_iload_n 3 dX5_add_52 rfl ?_
  obtain ⟨h15, hp⟩ := hp
  refine r_iast (kb_5 hb) (lt_b hb (by decide)) h15 dX5_add_53 ?_
  exact w_X5_add_54 b hb hd    x1 x2 x3 x4 x5 (vM v (b + 5) x5.toNatClampNeg x3) hp hQ
def f_X5_add_38 (b : Nat) (x1 : Int32) (x2 : Int32) (x3 : Int32) (x4 : Int32) (x5 : Int32) (v : gV) : (Int32 ⊕ String) × gV := f_X5_add_46 b  x1 x2 x3 x4 x5 (vM v (b + 4) x5.toNatClampNeg x2)
def p_X5_add_38 (b : Nat) (x1 : Int32) (x2 : Int32) (x3 : Int32) (x4 : Int32) (x5 : Int32) (v : gV) : Prop := (vp_in x5 8) ∧ (p_X5_add_46 b   x1 x2 x3 x4 x5 (vM v (b + 4) x5.toNatClampNeg x2))
set_option maxHeartbeats 4000000 in
set_option maxRecDepth 100000 in
theorem w_X5_add_38 {E : gE} {d : Nat} {Q : gO → gS → Prop} (b : Nat) (hb : isBk b) (hd : 9 ≤ d) (x1 : Int32) (x2 : Int32) (x3 : Int32) (x4 : Int32) (x5 : Int32) (v : gV) (hp : p_X5_add_38 b   x1 x2 x3 x4 x5 v) (hQ : gqTIV Q (f_X5_add_38 b  x1 x2 x3 x4 x5 v)) : gG E m_X5_add d Q 0 0 (rS v) 38 [(0, .ref (gX E + (b + 1))), (1, .int x1), (2, .int x2), (3, .int x3), (4, .int x4), (5, .int x5)] [] := by
  refine g_aload_n 0 dX5_add_38 rfl ?_
  refine r_get (.ref (gX E + (b + 4))) f_X5_15_X5 rfl (kb_1 hb) (lt_b hb (by decide)) dX5_add_39 (fun _ => rfl) ?_
  refine g_iload 5 dX5_add_42 rfl ?_
  refine g_iload_n 2 dX5_add_44 rfl ?_
  obtain ⟨h14, hp⟩ := hp
  refine r_iast (kb_4 hb) (lt_b hb (by decide)) h14 dX5_add_45 ?_
  exact w_X5_add_46 b hb hd    x1 x2 x3 x4 x5 (vM v (b + 4) x5.toNatClampNeg x2) hp hQ
def f_X5_add_28 (b : Nat) (x1 : Int32) (x2 : Int32) (x3 : Int32) (x4 : Int32) (s0 : Int32) (v : gV) : (Int32 ⊕ String) × gV := f_X5_add_38 b  x1 x2 x3 x4 s0 (vM v (b + 3) s0.toNatClampNeg x1)
def p_X5_add_28 (b : Nat) (x1 : Int32) (x2 : Int32) (x3 : Int32) (x4 : Int32) (s0 : Int32) (v : gV) : Prop := (vp_in s0 8) ∧ (p_X5_add_38 b   x1 x2 x3 x4 s0 (vM v (b + 3) s0.toNatClampNeg x1))
set_option maxHeartbeats 4000000 in
set_option maxRecDepth 100000 in
theorem w_X5_add_28 {E : gE} {d : Nat} {Q : gO → gS → Prop} (b : Nat) (hb : isBk b) (hd : 9 ≤ d) (x1 : Int32) (x2 : Int32) (x3 : Int32) (x4 : Int32) (s0 : Int32) (v : gV) (hp : p_X5_add_28 b   x1 x2 x3 x4 s0 v) (hQ : gqTIV Q (f_X5_add_28 b  x1 x2 x3 x4 s0 v)) : gG E m_X5_add d Q 0 0 (rS v) 28 [(0, .ref (gX E + (b + 1))), (1, .int x1), (2, .int x2), (3, .int x3), (4, .int x4)] [.int s0] := by
  refine g_istore [(5, .int s0), (0, .ref (gX E + (b + 1))), (1, .int x1), (2, .int x2), (3, .int x3), (4, .int x4)] dX5_add_28 (by decide) rfl ?_
  refine g_aload_n 1 dX5_add_30 rfl ?_
  refine r_get (.ref (gX E + (b + 3))) f_X5_9_X5 rfl (kb_1 hb) (lt_b hb (by decide)) dX5_add_31 (fun _ => rfl) ?_
  refine g_iload 0 dX5_add_34 rfl ?_
  refine g_iload_n 2 dX5_add_36 rfl ?_
  obtain ⟨h13, hp⟩ := hp
  refine r_iast (kb_3 hb) (lt_b hb (by decide)) h13 dX5_add_37 ?_
  refine g_lv (lv' := [(0, .ref (gX E + (b + 1))), (1, .int x1), (2, .int x2), (3, .int x3), (4, .int x4), (5, .int s0)]) [1, 2, 3, 4, 5, 0] rfl ?_
  exact w_X5_add_38 b hb hd    x1 x2 x3 x4 s0 (vM v (b + 3) s0.toNatClampNeg x1) hp hQ
def f_X5_add_23 (b : Nat) (x1 : Int32) (x2 : Int32) (x3 : Int32) (x4 : Int32) (s0 : Int32) (v : gV) : (Int32 ⊕ String) × gV := Sum.elim (fun (sr11 : Int32) => f_X5_add_28 b  x1 x2 x3 x4 sr11 (f_X6_takePlace_P b v).2) (fun (e : String) => (Sum.inr e, (f_X6_takePlace_P b v).2)) (f_X6_takePlace_P b v).1
def p_X5_add_23 (b : Nat) (x1 : Int32) (x2 : Int32) (x3 : Int32) (x4 : Int32) (s0 : Int32) (v : gV) : Prop := (p_X6_takePlace_P b v) ∧ (∀ (sr11 : Int32), (f_X6_takePlace_P b v).1 = Sum.inl sr11 → (p_X5_add_28 b   x1 x2 x3 x4 sr11 (f_X6_takePlace_P b v).2))
set_option maxHeartbeats 4000000 in
set_option maxRecDepth 100000 in
theorem w_X5_add_23 {E : gE} {d : Nat} {Q : gO → gS → Prop} (b : Nat) (hb : isBk b) (hd : 9 ≤ d) (x1 : Int32) (x2 : Int32) (x3 : Int32) (x4 : Int32) (s0 : Int32) (v : gV) (hp : p_X5_add_23 b   x1 x2 x3 x4 s0 v) (hQ : gqTIV Q (f_X5_add_23 b  x1 x2 x3 x4 s0 v)) : gG E m_X5_add d Q 1 6 (rS v) 23 [(0, .ref (gX E + (b + 1))), (1, .int x1), (2, .int x2), (3, .int x3), (4, .int x4)] [.int s0] := by
  refine g_pop dX5_add_23 rfl ?_
  refine g_aload_n 0 dX5_add_24 rfl ?_
  obtain ⟨h10, hp⟩ := hp
  refine g_callU (rest := []) s_X5_46_X5 rfl (c_X6_takePlace_P (E := E) (d := d - 1) b hb (by omega)  v h10) (kb_1 hb) (lt_b hb (by decide)) rfl rfl (Nat.le_of_ble_eq_true rfl) (by omega) (by decide) (by decide) dX5_add_25 (adTI (fun sr11 h12 => ?_)) (axTI (fun e h12 => g_outs rfl rfl (qe (P := gqTIV Q) h12 hQ)))
  have hQ := ql (P := gqTIV Q) h12 hQ
  have hp := hp sr11 h12
  exact w_X5_add_28 b hb hd    x1 x2 x3 x4 sr11 (f_X6_takePlace_P b v).2 hp hQ
def f_X5_add_15 (b : Nat) (x1 : Int32) (x2 : Int32) (x3 : Int32) (x4 : Int32) (s0 : Int32) (v : gV) : (Int32 ⊕ String) × gV := Sum.elim (fun (sr8 : Int32) => f_X5_add_23 b  x1 x2 x3 x4 sr8 v) (fun (e : String) => (Sum.inr e, v)) (f_X11_checkedNumber x3 (1 : Int32) (60 : Int32) v)
def p_X5_add_15 (b : Nat) (x1 : Int32) (x2 : Int32) (x3 : Int32) (x4 : Int32) (s0 : Int32) (v : gV) : Prop := (p_X11_checkedNumber x3 (1 : Int32) (60 : Int32) v) ∧ (∀ (sr8 : Int32), (f_X11_checkedNumber x3 (1 : Int32) (60 : Int32) v) = Sum.inl sr8 → (p_X5_add_23 b   x1 x2 x3 x4 sr8 v))
set_option maxHeartbeats 4000000 in
set_option maxRecDepth 100000 in
theorem w_X5_add_15 {E : gE} {d : Nat} {Q : gO → gS → Prop} (b : Nat) (hb : isBk b) (hd : 9 ≤ d) (x1 : Int32) (x2 : Int32) (x3 : Int32) (x4 : Int32) (s0 : Int32) (v : gV) (hp : p_X5_add_15 b   x1 x2 x3 x4 s0 v) (hQ : gqTIV Q (f_X5_add_15 b  x1 x2 x3 x4 s0 v)) : gG E m_X5_add d Q 2 12 (rS v) 15 [(0, .ref (gX E + (b + 1))), (1, .int x1), (2, .int x2), (3, .int x3), (4, .int x4)] [.int s0] := by
  refine g_pop dX5_add_15 rfl ?_
  refine g_iload_n 3 dX5_add_16 rfl ?_
  refine g_iconst dX5_add_17 (1 : Int32) (by decide) ?_
  refine g_bipush dX5_add_18 (60 : Int32) (by decide) ?_
  obtain ⟨h7, hp⟩ := hp
  refine g_callN (rest := []) s_X5_42 rfl (c_X11_checkedNumber (E := E) (d := d - 1)   (by omega) x3 (1 : Int32) (60 : Int32) v h7) rfl rfl (Nat.le_of_ble_eq_true rfl) (by omega) (by decide) (by decide) dX5_add_20 (adTI (fun sr8 h9 => ?_)) (axTI (fun e h9 => g_outs rfl rfl (qe (P := gqTIV Q) h9 hQ)))
  have hQ := ql (P := gqTIV Q) h9 hQ
  have hp := hp sr8 h9
  exact w_X5_add_23 b hb hd    x1 x2 x3 x4 sr8 v hp hQ
def f_X5_add_7 (b : Nat) (x1 : Int32) (x2 : Int32) (x3 : Int32) (x4 : Int32) (s0 : Int32) (v : gV) : (Int32 ⊕ String) × gV := Sum.elim (fun (sr5 : Int32) => f_X5_add_15 b  x1 x2 x3 x4 sr5 v) (fun (e : String) => (Sum.inr e, v)) (f_X11_checkedNumber x2 (0 : Int32) (8 : Int32) v)
def p_X5_add_7 (b : Nat) (x1 : Int32) (x2 : Int32) (x3 : Int32) (x4 : Int32) (s0 : Int32) (v : gV) : Prop := (p_X11_checkedNumber x2 (0 : Int32) (8 : Int32) v) ∧ (∀ (sr5 : Int32), (f_X11_checkedNumber x2 (0 : Int32) (8 : Int32) v) = Sum.inl sr5 → (p_X5_add_15 b   x1 x2 x3 x4 sr5 v))
set_option maxHeartbeats 4000000 in
set_option maxRecDepth 100000 in
theorem w_X5_add_7 {E : gE} {d : Nat} {Q : gO → gS → Prop} (b : Nat) (hb : isBk b) (hd : 9 ≤ d) (x1 : Int32) (x2 : Int32) (x3 : Int32) (x4 : Int32) (s0 : Int32) (v : gV) (hp : p_X5_add_7 b   x1 x2 x3 x4 s0 v) (hQ : gqTIV Q (f_X5_add_7 b  x1 x2 x3 x4 s0 v)) : gG E m_X5_add d Q 3 18 (rS v) 7 [(0, .ref (gX E + (b + 1))), (1, .int x1), (2, .int x2), (3, .int x3), (4, .int x4)] [.int s0] := by
  refine g_pop dX5_add_7 rfl ?_
  refine g_iload_n 2 dX5_add_8 rfl ?_
  refine g_iconst dX5_add_9 (0 : Int32) (by decide) ?_
  refine g_bipush dX5_add_10 (8 : Int32) (by decide) ?_
  obtain ⟨h4, hp⟩ := hp
  refine g_callN (rest := []) s_X5_42 rfl (c_X11_checkedNumber (E := E) (d := d - 1)   (by omega) x2 (0 : Int32) (8 : Int32) v h4) rfl rfl (Nat.le_of_ble_eq_true rfl) (by omega) (by decide) (by decide) dX5_add_12 (adTI (fun sr5 h6 => ?_)) (axTI (fun e h6 => g_outs rfl rfl (qe (P := gqTIV Q) h6 hQ)))
  have hQ := ql (P := gqTIV Q) h6 hQ
  have hp := hp sr5 h6
  exact w_X5_add_15 b hb hd    x1 x2 x3 x4 sr5 v hp hQ
def f_X5_add_0 (b : Nat) (x1 : Int32) (x2 : Int32) (x3 : Int32) (x4 : Int32) (v : gV) : (Int32 ⊕ String) × gV := Sum.elim (fun (sr2 : Int32) => f_X5_add_7 b  x1 x2 x3 x4 sr2 v) (fun (e : String) => (Sum.inr e, v)) (f_X11_checkedNumber x1 (1 : Int32) (30 : Int32) v)
def p_X5_add_0 (b : Nat) (x1 : Int32) (x2 : Int32) (x3 : Int32) (x4 : Int32) (v : gV) : Prop := (p_X11_checkedNumber x1 (1 : Int32) (30 : Int32) v) ∧ (∀ (sr2 : Int32), (f_X11_checkedNumber x1 (1 : Int32) (30 : Int32) v) = Sum.inl sr2 → (p_X5_add_7 b   x1 x2 x3 x4 sr2 v))
set_option maxHeartbeats 4000000 in
set_option maxRecDepth 100000 in
theorem w_X5_add_0 {E : gE} {d : Nat} {Q : gO → gS → Prop} (b : Nat) (hb : isBk b) (hd : 9 ≤ d) (x1 : Int32) (x2 : Int32) (x3 : Int32) (x4 : Int32) (v : gV) (hp : p_X5_add_0 b   x1 x2 x3 x4 v) (hQ : gqTIV Q (f_X5_add_0 b  x1 x2 x3 x4 v)) : gG E m_X5_add d Q 4 24 (rS v) 0 [(0, .ref (gX E + (b + 1))), (1, .int x1), (2, .int x2), (3, .int x3), (4, .int x4)] [] := by
  refine g_iload_n 1 dX5_add_0 rfl ?_
  refine g_iconst dX5_add_1 (1 : Int32) (by decide) ?_
  refine g_bipush dX5_add_2 (30 : Int32) (by decide) ?_
  obtain ⟨h1, hp⟩ := hp
  refine g_callN (rest := []) s_X5_42 rfl (c_X11_checkedNumber (E := E) (d := d - 1)   (by omega) x1 (1 : Int32) (30 : Int32) v h1) rfl rfl (Nat.le_of_ble_eq_true rfl) (by omega) (by decide) (by decide) dX5_add_4 (adTI (fun sr2 h3 => ?_)) (axTI (fun e h3 => g_outs rfl rfl (qe (P := gqTIV Q) h3 hQ)))
  have hQ := ql (P := gqTIV Q) h3 hQ
  have hp := hp sr2 h3
  exact w_X5_add_7 b hb hd    x1 x2 x3 x4 sr2 v hp hQ
def f_X5_add (b : Nat) (x1 : Int32) (x2 : Int32) (x3 : Int32) (x4 : Int32) (v : gV) : (Int32 ⊕ String) × gV := f_X5_add_0 b x1 x2 x3 x4 v
def p_X5_add (b : Nat) (x1 : Int32) (x2 : Int32) (x3 : Int32) (x4 : Int32) (v : gV) : Prop := p_X5_add_0 b x1 x2 x3 x4 v
theorem c_X5_add {E : gE} {d : Nat} (b : Nat) (hb : isBk b) (hd : 9 ≤ d) (x1 : Int32) (x2 : Int32) (x3 : Int32) (x4 : Int32) (v : gV) (hp : p_X5_add b x1 x2 x3 x4 v) : CT E m_X5_add d 4 24 [.ref (gX E + (b + 1)), .int x1, .int x2, .int x3, .int x4] (rS v) (Cq (gOi (f_X5_add b x1 x2 x3 x4 v).1) (f_X5_add b x1 x2 x3 x4 v).2) := CT.of ok_X5_add rfl (Nat.le_of_ble_eq_true rfl) (w_X5_add_0 b hb hd x1 x2 x3 x4 v hp ⟨rfl, rfl⟩)
def f_X5_remove_53 (b : Nat)  (v : gV) : gV := v
def p_X5_remove_53 (b : Nat)  (v : gV) : Prop := True
set_option maxHeartbeats 4000000 in
set_option maxRecDepth 100000 in
theorem w_X5_remove_53 {E : gE} {d : Nat} {Q : gO → gS → Prop} (b : Nat) (hb : isBk b) (hd : 2 ≤ d)  (v : gV) (hp : p_X5_remove_53 b    v) (hQ : gqV Q (f_X5_remove_53 b   v)) : gG E m_X5_remove d Q 0 0 (rS v) 53 [] [] := by
  exact g_vret rfl dX5_remove_53 hQ
def f_X5_remove_45 (b : Nat) (x1 : Int32) (v : gV) : gV := f_X5_remove_53 b   (f_X11_closeGap (b + 8) 8 x1 v)
def p_X5_remove_45 (b : Nat) (x1 : Int32) (v : gV) : Prop := (p_X11_closeGap (b + 8) 8 x1 v) ∧ (p_X5_remove_53 b    (f_X11_closeGap (b + 8) 8 x1 v))
set_option maxHeartbeats 4000000 in
set_option maxRecDepth 100000 in
theorem w_X5_remove_45 {E : gE} {d : Nat} {Q : gO → gS → Prop} (b : Nat) (hb : isBk b) (hd : 2 ≤ d) (x1 : Int32) (v : gV) (hp : p_X5_remove_45 b   x1 v) (hQ : gqV Q (f_X5_remove_45 b  x1 v)) : gG E m_X5_remove d Q 0 0 (rS v) 45 [(0, .ref (gX E + (b + 1))), (1, .int x1)] [] := by
  refine g_aload_n 0 dX5_remove_45 rfl ?_
  refine r_get (.ref (gX E + (b + 8))) f_X5_27_X5 rfl (kb_1 hb) (lt_b hb (by decide)) dX5_remove_46 (fun _ => rfl) ?_
  refine g_iload_n 1 dX5_remove_49 rfl ?_
  obtain ⟨h7, hp⟩ := hp
  refine g_callN (rest := []) s_X5_60 rfl (c_X11_closeGap (E := E) (d := d - 1) (b + 8) 8 (by decide) (kb_8 hb) (lt_b hb (by decide)) (by omega) x1 v h7) rfl rfl (Nat.le_of_ble_eq_true rfl) (by omega) (by decide) (by decide) dX5_remove_50 (adN ?_) axN
  refine g_lv (lv' := []) [] rfl ?_
  exact w_X5_remove_53 b hb hd     (f_X11_closeGap (b + 8) 8 x1 v) hp hQ
def f_X5_remove_37 (b : Nat) (x1 : Int32) (v : gV) : gV := f_X5_remove_45 b  x1 (f_X11_closeGap (b + 7) 8 x1 v)
def p_X5_remove_37 (b : Nat) (x1 : Int32) (v : gV) : Prop := (p_X11_closeGap (b + 7) 8 x1 v) ∧ (p_X5_remove_45 b   x1 (f_X11_closeGap (b + 7) 8 x1 v))
set_option maxHeartbeats 4000000 in
set_option maxRecDepth 100000 in
theorem w_X5_remove_37 {E : gE} {d : Nat} {Q : gO → gS → Prop} (b : Nat) (hb : isBk b) (hd : 2 ≤ d) (x1 : Int32) (v : gV) (hp : p_X5_remove_37 b   x1 v) (hQ : gqV Q (f_X5_remove_37 b  x1 v)) : gG E m_X5_remove d Q 0 0 (rS v) 37 [(0, .ref (gX E + (b + 1))), (1, .int x1)] [] := by
  refine g_aload_n 0 dX5_remove_37 rfl ?_
  refine r_get (.ref (gX E + (b + 7))) f_X5_24_X5 rfl (kb_1 hb) (lt_b hb (by decide)) dX5_remove_38 (fun _ => rfl) ?_
  refine g_iload_n 1 dX5_remove_41 rfl ?_
  obtain ⟨h6, hp⟩ := hp
  refine g_callN (rest := []) s_X5_60 rfl (c_X11_closeGap (E := E) (d := d - 1) (b + 7) 8 (by decide) (kb_7 hb) (lt_b hb (by decide)) (by omega) x1 v h6) rfl rfl (Nat.le_of_ble_eq_true rfl) (by omega) (by decide) (by decide) dX5_remove_42 (adN ?_) axN
  exact w_X5_remove_45 b hb hd    x1 (f_X11_closeGap (b + 7) 8 x1 v) hp hQ
def f_X5_remove_29 (b : Nat) (x1 : Int32) (v : gV) : gV := f_X5_remove_37 b  x1 (f_X11_closeGap (b + 6) 8 x1 v)
def p_X5_remove_29 (b : Nat) (x1 : Int32) (v : gV) : Prop := (p_X11_closeGap (b + 6) 8 x1 v) ∧ (p_X5_remove_37 b   x1 (f_X11_closeGap (b + 6) 8 x1 v))
set_option maxHeartbeats 4000000 in
set_option maxRecDepth 100000 in
theorem w_X5_remove_29 {E : gE} {d : Nat} {Q : gO → gS → Prop} (b : Nat) (hb : isBk b) (hd : 2 ≤ d) (x1 : Int32) (v : gV) (hp : p_X5_remove_29 b   x1 v) (hQ : gqV Q (f_X5_remove_29 b  x1 v)) : gG E m_X5_remove d Q 0 0 (rS v) 29 [(0, .ref (gX E + (b + 1))), (1, .int x1)] [] := by
  refine g_aload_n 0 dX5_remove_29 rfl ?_
  refine r_get (.ref (gX E + (b + 6))) f_X5_21_X5 rfl (kb_1 hb) (lt_b hb (by decide)) dX5_remove_30 (fun _ => rfl) ?_
  refine g_iload_n 1 dX5_remove_33 rfl ?_
  obtain ⟨h5, hp⟩ := hp
  refine g_callN (rest := []) s_X5_60 rfl (c_X11_closeGap (E := E) (d := d - 1) (b + 6) 8 (by decide) (kb_6 hb) (lt_b hb (by decide)) (by omega) x1 v h5) rfl rfl (Nat.le_of_ble_eq_true rfl) (by omega) (by decide) (by decide) dX5_remove_34 (adN ?_) axN
  exact w_X5_remove_37 b hb hd    x1 (f_X11_closeGap (b + 6) 8 x1 v) hp hQ
def f_X5_remove_21 (b : Nat) (x1 : Int32) (v : gV) : gV := f_X5_remove_29 b  x1 (f_X11_closeGap (b + 5) 8 x1 v)
def p_X5_remove_21 (b : Nat) (x1 : Int32) (v : gV) : Prop := (p_X11_closeGap (b + 5) 8 x1 v) ∧ (p_X5_remove_29 b   x1 (f_X11_closeGap (b + 5) 8 x1 v))
set_option maxHeartbeats 4000000 in
set_option maxRecDepth 100000 in
theorem w_X5_remove_21 {E : gE} {d : Nat} {Q : gO → gS → Prop} (b : Nat) (hb : isBk b) (hd : 2 ≤ d) (x1 : Int32) (v : gV) (hp : p_X5_remove_21 b   x1 v) (hQ : gqV Q (f_X5_remove_21 b  x1 v)) : gG E m_X5_remove d Q 0 0 (rS v) 21 [(0, .ref (gX E + (b + 1))), (1, .int x1)] [] := by
  refine g_aload_n 0 dX5_remove_21 rfl ?_
  refine r_get (.ref (gX E + (b + 5))) f_X5_18_X5 rfl (kb_1 hb) (lt_b hb (by decide)) dX5_remove_22 (fun _ => rfl) ?_
  refine g_iload_n 1 dX5_remove_25 rfl ?_
  obtain ⟨h4, hp⟩ := hp
  refine g_callN (rest := []) s_X5_60 rfl (c_X11_closeGap (E := E) (d := d - 1) (b + 5) 8 (by decide) (kb_5 hb) (lt_b hb (by decide)) (by omega) x1 v h4) rfl rfl (Nat.le_of_ble_eq_true rfl) (by omega) (by decide) (by decide) dX5_remove_26 (adN ?_) axN
  exact w_X5_remove_29 b hb hd    x1 (f_X11_closeGap (b + 5) 8 x1 v) hp hQ
def f_X5_remove_13 (b : Nat) (x1 : Int32) (v : gV) : gV := f_X5_remove_21 b  x1 (f_X11_closeGap (b + 4) 8 x1 v)
def p_X5_remove_13 (b : Nat) (x1 : Int32) (v : gV) : Prop := (p_X11_closeGap (b + 4) 8 x1 v) ∧ (p_X5_remove_21 b   x1 (f_X11_closeGap (b + 4) 8 x1 v))
set_option maxHeartbeats 4000000 in
set_option maxRecDepth 100000 in
theorem w_X5_remove_13 {E : gE} {d : Nat} {Q : gO → gS → Prop} (b : Nat) (hb : isBk b) (hd : 2 ≤ d) (x1 : Int32) (v : gV) (hp : p_X5_remove_13 b   x1 v) (hQ : gqV Q (f_X5_remove_13 b  x1 v)) : gG E m_X5_remove d Q 0 0 (rS v) 13 [(0, .ref (gX E + (b + 1))), (1, .int x1)] [] := by
  refine g_aload_n 0 dX5_remove_13 rfl ?_
  refine r_get (.ref (gX E + (b + 4))) f_X5_15_X5 rfl (kb_1 hb) (lt_b hb (by decide)) dX5_remove_14 (fun _ => rfl) ?_
  refine g_iload_n 1 dX5_remove_17 rfl ?_
  obtain ⟨h3, hp⟩ := hp
  refine g_callN (rest := []) s_X5_60 rfl (c_X11_closeGap (E := E) (d := d - 1) (b + 4) 8 (by decide) (kb_4 hb) (lt_b hb (by decide)) (by omega) x1 v h3) rfl rfl (Nat.le_of_ble_eq_true rfl) (by omega) (by decide) (by decide) dX5_remove_18 (adN ?_) axN
  exact w_X5_remove_21 b hb hd    x1 (f_X11_closeGap (b + 4) 8 x1 v) hp hQ
def f_X5_remove_5 (b : Nat) (x1 : Int32) (v : gV) : gV := f_X5_remove_13 b  x1 (f_X11_closeGap (b + 3) 8 x1 v)
def p_X5_remove_5 (b : Nat) (x1 : Int32) (v : gV) : Prop := (p_X11_closeGap (b + 3) 8 x1 v) ∧ (p_X5_remove_13 b   x1 (f_X11_closeGap (b + 3) 8 x1 v))
set_option maxHeartbeats 4000000 in
set_option maxRecDepth 100000 in
theorem w_X5_remove_5 {E : gE} {d : Nat} {Q : gO → gS → Prop} (b : Nat) (hb : isBk b) (hd : 2 ≤ d) (x1 : Int32) (v : gV) (hp : p_X5_remove_5 b   x1 v) (hQ : gqV Q (f_X5_remove_5 b  x1 v)) : gG E m_X5_remove d Q 0 0 (rS v) 5 [(0, .ref (gX E + (b + 1))), (1, .int x1)] [] := by
  refine g_aload_n 0 dX5_remove_5 rfl ?_
  refine r_get (.ref (gX E + (b + 3))) f_X5_9_X5 rfl (kb_1 hb) (lt_b hb (by decide)) dX5_remove_6 (fun _ => rfl) ?_
  refine g_iload_n 1 dX5_remove_9 rfl ?_
  obtain ⟨h2, hp⟩ := hp
  refine g_callN (rest := []) s_X5_60 rfl (c_X11_closeGap (E := E) (d := d - 1) (b + 3) 8 (by decide) (kb_3 hb) (lt_b hb (by decide)) (by omega) x1 v h2) rfl rfl (Nat.le_of_ble_eq_true rfl) (by omega) (by decide) (by decide) dX5_remove_10 (adN ?_) axN
  exact w_X5_remove_13 b hb hd    x1 (f_X11_closeGap (b + 3) 8 x1 v) hp hQ
def f_X5_remove_0 (b : Nat) (x1 : Int32) (v : gV) : gV := f_X5_remove_5 b  x1 (f_X6_removeId_P b x1 v)
def p_X5_remove_0 (b : Nat) (x1 : Int32) (v : gV) : Prop := (p_X6_removeId_P b x1 v) ∧ (p_X5_remove_5 b   x1 (f_X6_removeId_P b x1 v))
set_option maxHeartbeats 4000000 in
set_option maxRecDepth 100000 in
theorem w_X5_remove_0 {E : gE} {d : Nat} {Q : gO → gS → Prop} (b : Nat) (hb : isBk b) (hd : 2 ≤ d) (x1 : Int32) (v : gV) (hp : p_X5_remove_0 b   x1 v) (hQ : gqV Q (f_X5_remove_0 b  x1 v)) : gG E m_X5_remove d Q 0 0 (rS v) 0 [(0, .ref (gX E + (b + 1))), (1, .int x1)] [] := by
  refine g_aload_n 0 dX5_remove_0 rfl ?_
  refine g_iload_n 1 dX5_remove_1 rfl ?_
  obtain ⟨h1, hp⟩ := hp
  refine g_callU (rest := []) s_X5_56_X5 rfl (c_X6_removeId_P (E := E) (d := d - 1) b hb (by omega) x1 v h1) (kb_1 hb) (lt_b hb (by decide)) rfl rfl (Nat.le_of_ble_eq_true rfl) (by omega) (by decide) (by decide) dX5_remove_2 (adN ?_) axN
  exact w_X5_remove_5 b hb hd    x1 (f_X6_removeId_P b x1 v) hp hQ
def f_X5_remove (b : Nat) (x1 : Int32) (v : gV) : gV := f_X5_remove_0 b x1 v
def p_X5_remove (b : Nat) (x1 : Int32) (v : gV) : Prop := p_X5_remove_0 b x1 v
theorem c_X5_remove {E : gE} {d : Nat} (b : Nat) (hb : isBk b) (hd : 2 ≤ d) (x1 : Int32) (v : gV) (hp : p_X5_remove b x1 v) : CT E m_X5_remove d 0 0 [.ref (gX E + (b + 1)), .int x1] (rS v) (Cq (.inl none) (f_X5_remove b x1 v)) := CT.of ok_X5_remove rfl (Nat.le_of_ble_eq_true rfl) (w_X5_remove_0 b hb hd x1 v hp ⟨rfl, rfl⟩)
def f_X8_countByCoins_32 (b : Nat)  (v : gV) : Int32 × gV := ((f_X11_sumOfRow (b + 36) 4 (4 : Int32) v), v)
def p_X8_countByCoins_32 (b : Nat)  (v : gV) : Prop := (p_X11_sumOfRow (b + 36) 4 (4 : Int32) v) ∧ (True)
set_option maxHeartbeats 4000000 in
set_option maxRecDepth 100000 in
theorem w_X8_countByCoins_32 {E : gE} {d : Nat} {Q : gO → gS → Prop} (b : Nat) (hb : isBk b) (hd : 3 ≤ d)  (v : gV) (hp : p_X8_countByCoins_32 b    v) (hQ : gqIV Q (f_X8_countByCoins_32 b   v)) : gG E m_X8_countByCoins d Q 0 0 (rS v) 32 [(0, .ref (gX E + (b + 30)))] [] := by
  refine g_aload_n 0 dX8_countByCoins_32 rfl ?_
  refine r_get (.ref (gX E + (b + 36))) f_X8_27_X8 rfl (kb_30 hb) (lt_b hb (by decide)) dX8_countByCoins_33 (fun _ => rfl) ?_
  refine g_iconst dX8_countByCoins_36 (4 : Int32) (by decide) ?_
  obtain ⟨h4, hp⟩ := hp
  refine g_callN (rest := []) s_X8_59 rfl (c_X11_sumOfRow (E := E) (d := d - 1) (b + 36) 4 (by decide) (kb_36 hb) (lt_b hb (by decide)) (by omega) (4 : Int32) v h4) rfl rfl (Nat.le_of_ble_eq_true rfl) (by omega) (by decide) (by decide) dX8_countByCoins_37 (adV ?_) axN
  exact g_iret rfl dX8_countByCoins_40 hQ
def f_X8_countByCoins_19 (b : Nat) (x1 : Int32) (v : gV) : Int32 × gV := f_X8_countByCoins_32 b   (f_X8_bearCoins b (b + 35) (b + 36) x1 v)
def p_X8_countByCoins_19 (b : Nat) (x1 : Int32) (v : gV) : Prop := (p_X8_bearCoins b (b + 35) (b + 36) x1 v) ∧ (p_X8_countByCoins_32 b    (f_X8_bearCoins b (b + 35) (b + 36) x1 v))
set_option maxHeartbeats 4000000 in
set_option maxRecDepth 100000 in
theorem w_X8_countByCoins_19 {E : gE} {d : Nat} {Q : gO → gS → Prop} (b : Nat) (hb : isBk b) (hd : 3 ≤ d) (x1 : Int32) (v : gV) (hp : p_X8_countByCoins_19 b   x1 v) (hQ : gqIV Q (f_X8_countByCoins_19 b  x1 v)) : gG E m_X8_countByCoins d Q 0 0 (rS v) 19 [(0, .ref (gX E + (b + 30))), (1, .int x1)] [] := by
  refine g_aload_n 0 dX8_countByCoins_19 rfl ?_
  refine g_iload_n 1 dX8_countByCoins_20 rfl ?_
  refine g_aload_n 0 dX8_countByCoins_21 rfl ?_
  refine r_get (.ref (gX E + (b + 35))) f_X8_24_X8 rfl (kb_30 hb) (lt_b hb (by decide)) dX8_countByCoins_22 (fun _ => rfl) ?_
  refine g_aload_n 0 dX8_countByCoins_25 rfl ?_
  refine r_get (.ref (gX E + (b + 36))) f_X8_27_X8 rfl (kb_30 hb) (lt_b hb (by decide)) dX8_countByCoins_26 (fun _ => rfl) ?_
  obtain ⟨h3, hp⟩ := hp
  refine g_callV (rest := []) s_X8_55_X8 rfl (c_X8_bearCoins (E := E) (d := d - 1) b (b + 35) (b + 36) hb (kb_35 hb) (lt_b hb (by decide)) (kb_36 hb) (lt_b hb (by decide)) (by omega) x1 v h3) (kb_30 hb) (lt_b hb (by decide)) rfl rfl (Nat.le_of_ble_eq_true rfl) (by omega) (by decide) (by decide) dX8_countByCoins_29 (adN ?_) axN
  refine g_lv (lv' := [(0, .ref (gX E + (b + 30)))]) [0] rfl ?_
  exact w_X8_countByCoins_32 b hb hd     (f_X8_bearCoins b (b + 35) (b + 36) x1 v) hp hQ
def f_X8_countByCoins_11 (b : Nat) (x1 : Int32) (v : gV) : Int32 × gV := f_X8_countByCoins_19 b  x1 (f_J7_fill_53178 (b + 36) 4 (0 : Int32) v)
def p_X8_countByCoins_11 (b : Nat) (x1 : Int32) (v : gV) : Prop := (p_J7_fill_53178 (b + 36) 4 (0 : Int32) v) ∧ (p_X8_countByCoins_19 b   x1 (f_J7_fill_53178 (b + 36) 4 (0 : Int32) v))
set_option maxHeartbeats 4000000 in
set_option maxRecDepth 100000 in
theorem w_X8_countByCoins_11 {E : gE} {d : Nat} {Q : gO → gS → Prop} (b : Nat) (hb : isBk b) (hd : 3 ≤ d) (x1 : Int32) (v : gV) (hp : p_X8_countByCoins_11 b   x1 v) (hQ : gqIV Q (f_X8_countByCoins_11 b  x1 v)) : gG E m_X8_countByCoins d Q 0 0 (rS v) 11 [(0, .ref (gX E + (b + 30))), (1, .int x1)] [] := by
  refine g_aload_n 0 dX8_countByCoins_11 rfl ?_
  refine r_get (.ref (gX E + (b + 36))) f_X8_27_X8 rfl (kb_30 hb) (lt_b hb (by decide)) dX8_countByCoins_12 (fun _ => rfl) ?_
  refine g_iconst dX8_countByCoins_15 (0 : Int32) (by decide) ?_
  obtain ⟨h2, hp⟩ := hp
  refine g_callS (rest := []) s_X8_50 rfl (c_J7_fill_53178 (E := E) (d := d - 1) (b + 36) 4 (by decide) (kb_36 hb) (lt_b hb (by decide)) (by omega) (0 : Int32) v h2) rfl rfl (Nat.le_of_ble_eq_true rfl) (by omega) (by decide) (by decide) dX8_countByCoins_16 (adN ?_) axN
  exact w_X8_countByCoins_19 b hb hd    x1 (f_J7_fill_53178 (b + 36) 4 (0 : Int32) v) hp hQ
def f_X8_countByCoins_0 (b : Nat) (x1 : Int32) (v : gV) : Int32 × gV := f_X8_countByCoins_11 b  x1 (f_X11_copyRow (b + 33) 4 (b + 35) 4 v)
def p_X8_countByCoins_0 (b : Nat) (x1 : Int32) (v : gV) : Prop := (p_X11_copyRow (b + 33) 4 (b + 35) 4 v) ∧ (p_X8_countByCoins_11 b   x1 (f_X11_copyRow (b + 33) 4 (b + 35) 4 v))
set_option maxHeartbeats 4000000 in
set_option maxRecDepth 100000 in
theorem w_X8_countByCoins_0 {E : gE} {d : Nat} {Q : gO → gS → Prop} (b : Nat) (hb : isBk b) (hd : 3 ≤ d) (x1 : Int32) (v : gV) (hp : p_X8_countByCoins_0 b   x1 v) (hQ : gqIV Q (f_X8_countByCoins_0 b  x1 v)) : gG E m_X8_countByCoins d Q 0 0 (rS v) 0 [(0, .ref (gX E + (b + 30))), (1, .int x1)] [] := by
  refine g_aload_n 0 dX8_countByCoins_0 rfl ?_
  refine r_get (.ref (gX E + (b + 33))) f_X8_18_X8 rfl (kb_30 hb) (lt_b hb (by decide)) dX8_countByCoins_1 (fun _ => rfl) ?_
  refine g_aload_n 0 dX8_countByCoins_4 rfl ?_
  refine r_get (.ref (gX E + (b + 35))) f_X8_24_X8 rfl (kb_30 hb) (lt_b hb (by decide)) dX8_countByCoins_5 (fun _ => rfl) ?_
  obtain ⟨h1, hp⟩ := hp
  refine g_callN (rest := []) s_X8_30 rfl (c_X11_copyRow (E := E) (d := d - 1) (b + 33) 4 (b + 35) 4 (by decide) (kb_33 hb) (lt_b hb (by decide)) (by decide) (kb_35 hb) (lt_b hb (by decide)) (by omega)  v h1) rfl rfl (Nat.le_of_ble_eq_true rfl) (by omega) (by decide) (by decide) dX8_countByCoins_8 (adN ?_) axN
  exact w_X8_countByCoins_11 b hb hd    x1 (f_X11_copyRow (b + 33) 4 (b + 35) 4 v) hp hQ
def f_X8_countByCoins (b : Nat) (x1 : Int32) (v : gV) : Int32 × gV := f_X8_countByCoins_0 b x1 v
def p_X8_countByCoins (b : Nat) (x1 : Int32) (v : gV) : Prop := p_X8_countByCoins_0 b x1 v
theorem c_X8_countByCoins {E : gE} {d : Nat} (b : Nat) (hb : isBk b) (hd : 3 ≤ d) (x1 : Int32) (v : gV) (hp : p_X8_countByCoins b x1 v) : CT E m_X8_countByCoins d 0 0 [.ref (gX E + (b + 30)), .int x1] (rS v) (Cq (.inl (some (.int ((f_X8_countByCoins b x1 v).1)))) (f_X8_countByCoins b x1 v).2) := CT.of ok_X8_countByCoins rfl (Nat.le_of_ble_eq_true rfl) (w_X8_countByCoins_0 b hb hd x1 v hp ⟨rfl, rfl⟩)
def f_X9_timesFactor_0 (b : Nat) (x1 : Int64) (x3 : Int32) (x4 : Int32) (v : gV) : Int64 := if 0 ≤ (lg_cmp (f_X9_totalOfPeriods b (x4 - x3) x3 v) (1 : Int64)) then ((x1 * (f_X9_totalOfPeriods b (x4 - x3) (x3 + (1 : Int32)) v)) / (f_X9_totalOfPeriods b (x4 - x3) x3 v)) else x1
def p_X9_timesFactor_0 (b : Nat) (x1 : Int64) (x3 : Int32) (x4 : Int32) (v : gV) : Prop := (p_X9_totalOfPeriods b (x4 - x3) x3 v) ∧ (((0 ≤ (lg_cmp (f_X9_totalOfPeriods b (x4 - x3) x3 v) (1 : Int64))) → ((p_X9_totalOfPeriods b (x4 - x3) (x3 + (1 : Int32)) v) ∧ ((¬ (f_X9_totalOfPeriods b (x4 - x3) x3 v) = 0) ∧ (True)))) ∧ (¬ (0 ≤ (lg_cmp (f_X9_totalOfPeriods b (x4 - x3) x3 v) (1 : Int64))) → (True)))
set_option maxHeartbeats 4000000 in
set_option maxRecDepth 100000 in
theorem w_X9_timesFactor_0 {E : gE} {d : Nat} {Q : gO → gS → Prop} (b : Nat) (hb : isBk b) (hd : 2 ≤ d) (x1 : Int64) (x3 : Int32) (x4 : Int32) (v : gV) (hp : p_X9_timesFactor_0 b   x1 x3 x4 v) (hQ : gqJ Q v (f_X9_timesFactor_0 b  x1 x3 x4 v)) : gG E m_X9_timesFactor d Q 0 0 (rS v) 0 [(0, .ref (gX E + (b + 37))), (1, .long x1), (3, .int x3), (4, .int x4)] [] := by
  refine g_iload 3 dX9_timesFactor_0 rfl ?_
  refine g_iload_n 2 dX9_timesFactor_2 rfl ?_
  refine g_isub dX9_timesFactor_3 ?_
  refine g_istore [(5, .int (x4 - x3)), (0, .ref (gX E + (b + 37))), (1, .long x1), (3, .int x3), (4, .int x4)] dX9_timesFactor_4 (by decide) rfl ?_
  refine g_aload_n 1 dX9_timesFactor_6 rfl ?_
  refine g_iload 0 dX9_timesFactor_7 rfl ?_
  refine g_iload_n 3 dX9_timesFactor_9 rfl ?_
  obtain ⟨h1, hp⟩ := hp
  refine g_callV (rest := []) s_X9_32_X9 rfl (c_X9_totalOfPeriods (E := E) (d := d - 1) b hb (by omega) (x4 - x3) x3 v h1) (kb_37 hb) (lt_b hb (by decide)) rfl rfl (Nat.le_of_ble_eq_true rfl) (by omega) (by decide) (by decide) dX9_timesFactor_10 (adV ?_) axN
  refine g_lstore [(6, .long ((f_X9_totalOfPeriods b (x4 - x3) x3 v))), (5, .int (x4 - x3)), (0, .ref (gX E + (b + 37))), (1, .long x1), (3, .int x3), (4, .int x4)] dX9_timesFactor_13 (by decide) rfl ?_
  refine g_lload 0 dX9_timesFactor_15 rfl ?_
  refine g_lconst dX9_timesFactor_17 (1 : Int64) (by decide) ?_
  refine g_lcmp dX9_timesFactor_18 ?_
  refine g_if_ge 24 dX9_timesFactor_19 (by decide) (fun h2 => ?_) (fun h2 => ?_)
  · have hQ := qp (P := gqJ Q v) h2 hQ
    have hp := hp.1 h2
    refine g_lload_n 3 dX9_timesFactor_24 rfl ?_
    refine g_aload_n 2 dX9_timesFactor_25 rfl ?_
    refine g_iload 1 dX9_timesFactor_26 rfl ?_
    refine g_iload_n 4 dX9_timesFactor_28 rfl ?_
    refine g_iconst dX9_timesFactor_29 (1 : Int32) (by decide) ?_
    refine g_iadd dX9_timesFactor_30 ?_
    obtain ⟨h3, hp⟩ := hp
    refine g_callV (rest := [.long x1]) s_X9_32_X9 rfl (c_X9_totalOfPeriods (E := E) (d := d - 1) b hb (by omega) (x4 - x3) (x3 + (1 : Int32)) v h3) (kb_37 hb) (lt_b hb (by decide)) rfl rfl (Nat.le_of_ble_eq_true rfl) (by omega) (by decide) (by decide) dX9_timesFactor_31 (adV ?_) axN
    refine g_lmul dX9_timesFactor_34 ?_
    refine g_lload 0 dX9_timesFactor_35 rfl ?_
    obtain ⟨h4, hp⟩ := hp
    refine g_ldiv dX9_timesFactor_37 h4 ?_
    exact g_lret rfl dX9_timesFactor_38 hQ
  · have hQ := qn (P := gqJ Q v) h2 hQ
    have hp := hp.2 h2
    refine g_lload_n 3 dX9_timesFactor_22 rfl ?_
    exact g_lret rfl dX9_timesFactor_23 hQ
def f_X9_timesFactor (b : Nat) (x1 : Int64) (x3 : Int32) (x4 : Int32) (v : gV) : Int64 := f_X9_timesFactor_0 b x1 x3 x4 v
def p_X9_timesFactor (b : Nat) (x1 : Int64) (x3 : Int32) (x4 : Int32) (v : gV) : Prop := p_X9_timesFactor_0 b x1 x3 x4 v
theorem c_X9_timesFactor {E : gE} {d : Nat} (b : Nat) (hb : isBk b) (hd : 2 ≤ d) (x1 : Int64) (x3 : Int32) (x4 : Int32) (v : gV) (hp : p_X9_timesFactor b x1 x3 x4 v) : CT E m_X9_timesFactor d 0 0 [.ref (gX E + (b + 37)), .long x1, .int x3, .int x4] (rS v) (Cq (.inl (some (.long (f_X9_timesFactor b x1 x3 x4 v)))) v) := CT.of ok_X9_timesFactor rfl (Nat.le_of_ble_eq_true rfl) (w_X9_timesFactor_0 b hb hd x1 x3 x4 v hp ⟨rfl, rfl⟩)
def f_X11_borneByCoins_17  (s0 : Int32) (v : gV) : (Int32 ⊕ String) × gV := (Sum.inl s0, v)
def p_X11_borneByCoins_17  (s0 : Int32) (v : gV) : Prop := True
set_option maxHeartbeats 4000000 in
set_option maxRecDepth 100000 in
theorem w_X11_borneByCoins_17 {E : gE} {d : Nat} {Q : gO → gS → Prop}   (hd : 8 ≤ d) (s0 : Int32) (v : gV) (hp : p_X11_borneByCoins_17   s0 v) (hQ : gqTIV Q (f_X11_borneByCoins_17  s0 v)) : gG E m_X11_borneByCoins d Q 0 0 (rS v) 17 [] [.int s0] := by
  exact g_iret rfl dX11_borneByCoins_17 hQ
def f_X11_borneByCoins_14  (s0 : Int32) (v : gV) : (Int32 ⊕ String) × gV := f_X11_borneByCoins_17  ((f_X8_countByCoins 1 s0 v).1) (f_X8_countByCoins 1 s0 v).2
def p_X11_borneByCoins_14  (s0 : Int32) (v : gV) : Prop := (p_X8_countByCoins 1 s0 v) ∧ (p_X11_borneByCoins_17   ((f_X8_countByCoins 1 s0 v).1) (f_X8_countByCoins 1 s0 v).2)
set_option maxHeartbeats 4000000 in
set_option maxRecDepth 100000 in
theorem w_X11_borneByCoins_14 {E : gE} {d : Nat} {Q : gO → gS → Prop}   (hd : 8 ≤ d) (s0 : Int32) (v : gV) (hp : p_X11_borneByCoins_14   s0 v) (hQ : gqTIV Q (f_X11_borneByCoins_14  s0 v)) : gG E m_X11_borneByCoins d Q 0 0 (rS v) 14 [] [.int s0, .ref (gX E + (1 + 30))] := by
  obtain ⟨h4, hp⟩ := hp
  refine g_callV (rest := []) s_X11_196_X8 rfl (c_X8_countByCoins (E := E) (d := d - 1) 1 isBk_1 (by omega) s0 v h4) (kb_30 isBk_1) (lt_b isBk_1 (by decide)) rfl rfl (Nat.le_of_ble_eq_true rfl) (by omega) (by decide) (by decide) dX11_borneByCoins_14 (adV ?_) axN
  exact w_X11_borneByCoins_17  hd    ((f_X8_countByCoins 1 s0 v).1) (f_X8_countByCoins 1 s0 v).2 hp hQ
def f_X11_borneByCoins_0  (x1 : Int32) (v : gV) : (Int32 ⊕ String) × gV := Sum.elim (fun (sr2 : Int32) => f_X11_borneByCoins_14  sr2 v) (fun (e : String) => (Sum.inr e, v)) (f_X11_checkedNumber x1 (1 : Int32) (30 : Int32) v)
def p_X11_borneByCoins_0  (x1 : Int32) (v : gV) : Prop := (p_X11_checkedNumber x1 (1 : Int32) (30 : Int32) v) ∧ (∀ (sr2 : Int32), (f_X11_checkedNumber x1 (1 : Int32) (30 : Int32) v) = Sum.inl sr2 → (p_X11_borneByCoins_14   sr2 v))
set_option maxHeartbeats 4000000 in
set_option maxRecDepth 100000 in
theorem w_X11_borneByCoins_0 {E : gE} {d : Nat} {Q : gO → gS → Prop}   (hd : 8 ≤ d) (x1 : Int32) (v : gV) (hp : p_X11_borneByCoins_0   x1 v) (hQ : gqTIV Q (f_X11_borneByCoins_0  x1 v)) : gG E m_X11_borneByCoins d Q 1 6 (rS v) 0 [(0, .ref (gX E + 0)), (1, .int x1)] [] := by
  refine g_aload_n 0 dX11_borneByCoins_0 rfl ?_
  refine r_get (.ref (gX E + 1)) f_X11_10_X11 rfl (by decide : kd 0 = (0, 8)) (show 0 < 572 by decide) dX11_borneByCoins_1 (fun _ => rfl) ?_
  refine r_get (.ref (gX E + (1 + 30))) f_X11_171_X1 rfl (kbz isBk_1) (lt_b0 isBk_1) dX11_borneByCoins_4 (fun _ => rfl) ?_
  refine g_iload_n 1 dX11_borneByCoins_7 rfl ?_
  refine g_iconst dX11_borneByCoins_8 (1 : Int32) (by decide) ?_
  refine g_bipush dX11_borneByCoins_9 (30 : Int32) (by decide) ?_
  obtain ⟨h1, hp⟩ := hp
  refine g_callS (rest := [.ref (gX E + (1 + 30))]) s_X11_190 rfl (c_X11_checkedNumber (E := E) (d := d - 1)   (by omega) x1 (1 : Int32) (30 : Int32) v h1) rfl rfl (Nat.le_of_ble_eq_true rfl) (by omega) (by decide) (by decide) dX11_borneByCoins_11 (adTI (fun sr2 h3 => ?_)) (axTI (fun e h3 => g_outs rfl rfl (qe (P := gqTIV Q) h3 hQ)))
  have hQ := ql (P := gqTIV Q) h3 hQ
  have hp := hp sr2 h3
  refine g_lv (lv' := []) [] rfl ?_
  exact w_X11_borneByCoins_14  hd    sr2 v hp hQ
def f_X11_borneByCoins  (x1 : Int32) (v : gV) : (Int32 ⊕ String) × gV := f_X11_borneByCoins_0 x1 v
def p_X11_borneByCoins  (x1 : Int32) (v : gV) : Prop := p_X11_borneByCoins_0 x1 v
theorem c_X11_borneByCoins {E : gE} {d : Nat}   (hd : 8 ≤ d) (x1 : Int32) (v : gV) (hp : p_X11_borneByCoins x1 v) : CT E m_X11_borneByCoins d 1 6 [.ref (gX E + 0), .int x1] (rS v) (Cq (gOi (f_X11_borneByCoins x1 v).1) (f_X11_borneByCoins x1 v).2) := CT.of ok_X11_borneByCoins rfl (Nat.le_of_ble_eq_true rfl) (w_X11_borneByCoins_0  hd x1 v hp ⟨rfl, rfl⟩)
def f_X11_cheapestCoverBySets_28  (s0 : Int32) (v : gV) : Int32 ⊕ String := Sum.inl s0
def p_X11_cheapestCoverBySets_28  (s0 : Int32) (v : gV) : Prop := True
set_option maxHeartbeats 4000000 in
set_option maxRecDepth 100000 in
theorem w_X11_cheapestCoverBySets_28 {E : gE} {d : Nat} {Q : gO → gS → Prop}   (hd : 8 ≤ d) (s0 : Int32) (v : gV) (hp : p_X11_cheapestCoverBySets_28   s0 v) (hQ : gqTI Q v (f_X11_cheapestCoverBySets_28  s0 v)) : gG E m_X11_cheapestCoverBySets d Q 0 0 (rS v) 28 [] [.int s0] := by
  exact g_iret rfl dX11_cheapestCoverBySets_28 hQ
def f_X11_cheapestCoverBySets_21  (x3 : Int32) (s0 : Int32) (v : gV) : Int32 ⊕ String := Sum.elim (fun (sr9 : Int32) => f_X11_cheapestCoverBySets_28  sr9 v) (fun (e : String) => Sum.inr e) (f_X11_coverPrice (f_X4_cheapestBySets 1 s0 x3 v) v)
def p_X11_cheapestCoverBySets_21  (x3 : Int32) (s0 : Int32) (v : gV) : Prop := (p_X4_cheapestBySets 1 s0 x3 v) ∧ ((p_X11_coverPrice (f_X4_cheapestBySets 1 s0 x3 v) v) ∧ (∀ (sr9 : Int32), (f_X11_coverPrice (f_X4_cheapestBySets 1 s0 x3 v) v) = Sum.inl sr9 → (p_X11_cheapestCoverBySets_28   sr9 v)))
set_option maxHeartbeats 4000000 in
set_option maxRecDepth 100000 in
theorem w_X11_cheapestCoverBySets_21 {E : gE} {d : Nat} {Q : gO → gS → Prop}   (hd : 8 ≤ d) (x3 : Int32) (s0 : Int32) (v : gV) (hp : p_X11_cheapestCoverBySets_21   x3 s0 v) (hQ : gqTI Q v (f_X11_cheapestCoverBySets_21  x3 s0 v)) : gG E m_X11_cheapestCoverBySets d Q 1 6 (rS v) 21 [(3, .int x3)] [.int s0, .ref (gX E + (1 + 45))] := by
  refine g_iload_n 0 dX11_cheapestCoverBySets_21 rfl ?_
  obtain ⟨h7, hp⟩ := hp
  refine g_callV (rest := []) s_X11_243_X4 rfl (c_X4_cheapestBySets (E := E) (d := d - 1) 1 isBk_1 (by omega) s0 x3 v h7) (kb_45 isBk_1) (lt_b isBk_1 (by decide)) rfl rfl (Nat.le_of_ble_eq_true rfl) (by omega) (by decide) (by decide) dX11_cheapestCoverBySets_22 (adV ?_) axN
  obtain ⟨h8, hp⟩ := hp
  refine g_callS (rest := []) s_X11_240 rfl (c_X11_coverPrice (E := E) (d := d - 1)   (by omega) (f_X4_cheapestBySets 1 s0 x3 v) v h8) rfl rfl (Nat.le_of_ble_eq_true rfl) (by omega) (by decide) (by decide) dX11_cheapestCoverBySets_25 (adTI (fun sr9 h10 => ?_)) (axTI (fun e h10 => g_outs rfl rfl (qe (P := gqTI Q v) h10 hQ)))
  have hQ := ql (P := gqTI Q v) h10 hQ
  have hp := hp sr9 h10
  refine g_lv (lv' := []) [] rfl ?_
  exact w_X11_cheapestCoverBySets_28  hd    sr9 v hp hQ
def f_X11_cheapestCoverBySets_7  (x1 : Int32) (s0 : Int32) (v : gV) : Int32 ⊕ String := Sum.elim (fun (sr5 : Int32) => f_X11_cheapestCoverBySets_21  s0 sr5 v) (fun (e : String) => Sum.inr e) (f_X11_checkedNumber x1 (0 : Int32) s0 v)
def p_X11_cheapestCoverBySets_7  (x1 : Int32) (s0 : Int32) (v : gV) : Prop := (p_X11_checkedNumber x1 (0 : Int32) s0 v) ∧ (∀ (sr5 : Int32), (f_X11_checkedNumber x1 (0 : Int32) s0 v) = Sum.inl sr5 → (p_X11_cheapestCoverBySets_21   s0 sr5 v))
set_option maxHeartbeats 4000000 in
set_option maxRecDepth 100000 in
theorem w_X11_cheapestCoverBySets_7 {E : gE} {d : Nat} {Q : gO → gS → Prop}   (hd : 8 ≤ d) (x1 : Int32) (s0 : Int32) (v : gV) (hp : p_X11_cheapestCoverBySets_7   x1 s0 v) (hQ : gqTI Q v (f_X11_cheapestCoverBySets_7  x1 s0 v)) : gG E m_X11_cheapestCoverBySets d Q 2 12 (rS v) 7 [(0, .ref (gX E + 0)), (1, .int x1)] [.int s0] := by
  refine g_istore_n [(3, .int s0), (0, .ref (gX E + 0)), (1, .int x1)] dX11_cheapestCoverBySets_7 rfl (by decide) rfl ?_
  refine g_aload_n 1 dX11_cheapestCoverBySets_8 rfl ?_
  refine r_get (.ref (gX E + 1)) f_X11_10_X11 rfl (by decide : kd 0 = (0, 8)) (show 0 < 572 by decide) dX11_cheapestCoverBySets_9 (fun _ => rfl) ?_
  refine r_get (.ref (gX E + (1 + 45))) f_X11_87_X1 rfl (kbz isBk_1) (lt_b0 isBk_1) dX11_cheapestCoverBySets_12 (fun _ => rfl) ?_
  refine g_iload_n 2 dX11_cheapestCoverBySets_15 rfl ?_
  refine g_iconst dX11_cheapestCoverBySets_16 (0 : Int32) (by decide) ?_
  refine g_iload_n 0 dX11_cheapestCoverBySets_17 rfl ?_
  obtain ⟨h4, hp⟩ := hp
  refine g_callS (rest := [.ref (gX E + (1 + 45))]) s_X11_190 rfl (c_X11_checkedNumber (E := E) (d := d - 1)   (by omega) x1 (0 : Int32) s0 v h4) rfl rfl (Nat.le_of_ble_eq_true rfl) (by omega) (by decide) (by decide) dX11_cheapestCoverBySets_18 (adTI (fun sr5 h6 => ?_)) (axTI (fun e h6 => g_outs rfl rfl (qe (P := gqTI Q v) h6 hQ)))
  have hQ := ql (P := gqTI Q v) h6 hQ
  have hp := hp sr5 h6
  refine g_lv (lv' := [(3, .int s0)]) [0] rfl ?_
  exact w_X11_cheapestCoverBySets_21  hd    s0 sr5 v hp hQ
def f_X11_cheapestCoverBySets_0  (x1 : Int32) (x2 : Int32) (v : gV) : Int32 ⊕ String := Sum.elim (fun (sr2 : Int32) => f_X11_cheapestCoverBySets_7  x1 sr2 v) (fun (e : String) => Sum.inr e) (f_X11_checkedNumber x2 (0 : Int32) (99 : Int32) v)
def p_X11_cheapestCoverBySets_0  (x1 : Int32) (x2 : Int32) (v : gV) : Prop := (p_X11_checkedNumber x2 (0 : Int32) (99 : Int32) v) ∧ (∀ (sr2 : Int32), (f_X11_checkedNumber x2 (0 : Int32) (99 : Int32) v) = Sum.inl sr2 → (p_X11_cheapestCoverBySets_7   x1 sr2 v))
set_option maxHeartbeats 4000000 in
set_option maxRecDepth 100000 in
theorem w_X11_cheapestCoverBySets_0 {E : gE} {d : Nat} {Q : gO → gS → Prop}   (hd : 8 ≤ d) (x1 : Int32) (x2 : Int32) (v : gV) (hp : p_X11_cheapestCoverBySets_0   x1 x2 v) (hQ : gqTI Q v (f_X11_cheapestCoverBySets_0  x1 x2 v)) : gG E m_X11_cheapestCoverBySets d Q 3 18 (rS v) 0 [(0, .ref (gX E + 0)), (1, .int x1), (2, .int x2)] [] := by
  refine g_iload_n 2 dX11_cheapestCoverBySets_0 rfl ?_
  refine g_iconst dX11_cheapestCoverBySets_1 (0 : Int32) (by decide) ?_
  refine g_bipush dX11_cheapestCoverBySets_2 (99 : Int32) (by decide) ?_
  obtain ⟨h1, hp⟩ := hp
  refine g_callS (rest := []) s_X11_190 rfl (c_X11_checkedNumber (E := E) (d := d - 1)   (by omega) x2 (0 : Int32) (99 : Int32) v h1) rfl rfl (Nat.le_of_ble_eq_true rfl) (by omega) (by decide) (by decide) dX11_cheapestCoverBySets_4 (adTI (fun sr2 h3 => ?_)) (axTI (fun e h3 => g_outs rfl rfl (qe (P := gqTI Q v) h3 hQ)))
  have hQ := ql (P := gqTI Q v) h3 hQ
  have hp := hp sr2 h3
  refine g_lv (lv' := [(0, .ref (gX E + 0)), (1, .int x1)]) [0, 1] rfl ?_
  exact w_X11_cheapestCoverBySets_7  hd    x1 sr2 v hp hQ
def f_X11_cheapestCoverBySets  (x1 : Int32) (x2 : Int32) (v : gV) : Int32 ⊕ String := f_X11_cheapestCoverBySets_0 x1 x2 v
def p_X11_cheapestCoverBySets  (x1 : Int32) (x2 : Int32) (v : gV) : Prop := p_X11_cheapestCoverBySets_0 x1 x2 v
theorem c_X11_cheapestCoverBySets {E : gE} {d : Nat}   (hd : 8 ≤ d) (x1 : Int32) (x2 : Int32) (v : gV) (hp : p_X11_cheapestCoverBySets x1 x2 v) : CT E m_X11_cheapestCoverBySets d 3 18 [.ref (gX E + 0), .int x1, .int x2] (rS v) (Cq (gOi (f_X11_cheapestCoverBySets x1 x2 v)) v) := CT.of ok_X11_cheapestCoverBySets rfl (Nat.le_of_ble_eq_true rfl) (w_X11_cheapestCoverBySets_0  hd x1 x2 v hp ⟨rfl, rfl⟩)
def f_X1_copyFrom_111 (b : Nat) (b2 : Nat)  (v : gV) : gV := v
def p_X1_copyFrom_111 (b : Nat) (b2 : Nat)  (v : gV) : Prop := True
set_option maxHeartbeats 4000000 in
set_option maxRecDepth 100000 in
theorem w_X1_copyFrom_111 {E : gE} {d : Nat} {Q : gO → gS → Prop} (b : Nat) (b2 : Nat) (hb : isBk b) (hb2 : isBk b2) (hd : 5 ≤ d)  (v : gV) (hp : p_X1_copyFrom_111 b b2    v) (hQ : gqV Q (f_X1_copyFrom_111 b b2   v)) : gG E m_X1_copyFrom d Q 0 0 (rS v) 111 [] [] := by
  exact g_vret rfl dX1_copyFrom_111 hQ
def f_X1_copyFrom_103 (b : Nat) (b2 : Nat)  (v : gV) : gV := f_X1_copyFrom_111 b b2   (vM v b 11 (v.1 b2 11))
def p_X1_copyFrom_103 (b : Nat) (b2 : Nat)  (v : gV) : Prop := p_X1_copyFrom_111 b b2    (vM v b 11 (v.1 b2 11))
set_option maxHeartbeats 4000000 in
set_option maxRecDepth 100000 in
theorem w_X1_copyFrom_103 {E : gE} {d : Nat} {Q : gO → gS → Prop} (b : Nat) (b2 : Nat) (hb : isBk b) (hb2 : isBk b2) (hd : 5 ≤ d)  (v : gV) (hp : p_X1_copyFrom_103 b b2    v) (hQ : gqV Q (f_X1_copyFrom_103 b b2   v)) : gG E m_X1_copyFrom d Q 0 0 (rS v) 103 [(0, .ref (gX E + b)), (1, .ref (gX E + b2))] [] := by
  refine g_aload_n 0 dX1_copyFrom_103 rfl ?_
  refine g_aload_n 1 dX1_copyFrom_104 rfl ?_
  refine r_get (.int (v.1 b2 11)) f_X1_81_X1 rfl (kbz hb2) (lt_b0 hb2) dX1_copyFrom_105 (fun _ => rfl) ?_
  refine r_put pf_X1_81_X1 rfl (kbz hb) (by decide) (by decide) rfl (lt_b0 hb) rfl rfl dX1_copyFrom_108 ?_
  refine g_lv (lv' := []) [] rfl ?_
  exact w_X1_copyFrom_111 b b2 hb hb2 hd     (vM v b 11 (v.1 b2 11)) hp hQ
def f_X1_copyFrom_95 (b : Nat) (b2 : Nat)  (v : gV) : gV := f_X1_copyFrom_103 b b2   (vM v b 10 (v.1 b2 10))
def p_X1_copyFrom_95 (b : Nat) (b2 : Nat)  (v : gV) : Prop := p_X1_copyFrom_103 b b2    (vM v b 10 (v.1 b2 10))
set_option maxHeartbeats 4000000 in
set_option maxRecDepth 100000 in
theorem w_X1_copyFrom_95 {E : gE} {d : Nat} {Q : gO → gS → Prop} (b : Nat) (b2 : Nat) (hb : isBk b) (hb2 : isBk b2) (hd : 5 ≤ d)  (v : gV) (hp : p_X1_copyFrom_95 b b2    v) (hQ : gqV Q (f_X1_copyFrom_95 b b2   v)) : gG E m_X1_copyFrom d Q 0 0 (rS v) 95 [(0, .ref (gX E + b)), (1, .ref (gX E + b2))] [] := by
  refine g_aload_n 0 dX1_copyFrom_95 rfl ?_
  refine g_aload_n 1 dX1_copyFrom_96 rfl ?_
  refine r_get (.int (v.1 b2 10)) f_X1_78_X1 rfl (kbz hb2) (lt_b0 hb2) dX1_copyFrom_97 (fun _ => rfl) ?_
  refine r_put pf_X1_78_X1 rfl (kbz hb) (by decide) (by decide) rfl (lt_b0 hb) rfl rfl dX1_copyFrom_100 ?_
  exact w_X1_copyFrom_103 b b2 hb hb2 hd     (vM v b 10 (v.1 b2 10)) hp hQ
def f_X1_copyFrom_87 (b : Nat) (b2 : Nat)  (v : gV) : gV := f_X1_copyFrom_95 b b2   (vM v b 9 (v.1 b2 9))
def p_X1_copyFrom_87 (b : Nat) (b2 : Nat)  (v : gV) : Prop := p_X1_copyFrom_95 b b2    (vM v b 9 (v.1 b2 9))
set_option maxHeartbeats 4000000 in
set_option maxRecDepth 100000 in
theorem w_X1_copyFrom_87 {E : gE} {d : Nat} {Q : gO → gS → Prop} (b : Nat) (b2 : Nat) (hb : isBk b) (hb2 : isBk b2) (hd : 5 ≤ d)  (v : gV) (hp : p_X1_copyFrom_87 b b2    v) (hQ : gqV Q (f_X1_copyFrom_87 b b2   v)) : gG E m_X1_copyFrom d Q 0 0 (rS v) 87 [(0, .ref (gX E + b)), (1, .ref (gX E + b2))] [] := by
  refine g_aload_n 0 dX1_copyFrom_87 rfl ?_
  refine g_aload_n 1 dX1_copyFrom_88 rfl ?_
  refine r_get (.int (v.1 b2 9)) f_X1_75_X1 rfl (kbz hb2) (lt_b0 hb2) dX1_copyFrom_89 (fun _ => rfl) ?_
  refine r_put pf_X1_75_X1 rfl (kbz hb) (by decide) (by decide) rfl (lt_b0 hb) rfl rfl dX1_copyFrom_92 ?_
  exact w_X1_copyFrom_95 b b2 hb hb2 hd     (vM v b 9 (v.1 b2 9)) hp hQ
def f_X1_copyFrom_79 (b : Nat) (b2 : Nat)  (v : gV) : gV := f_X1_copyFrom_87 b b2   (vM v b 8 (v.1 b2 8))
def p_X1_copyFrom_79 (b : Nat) (b2 : Nat)  (v : gV) : Prop := p_X1_copyFrom_87 b b2    (vM v b 8 (v.1 b2 8))
set_option maxHeartbeats 4000000 in
set_option maxRecDepth 100000 in
theorem w_X1_copyFrom_79 {E : gE} {d : Nat} {Q : gO → gS → Prop} (b : Nat) (b2 : Nat) (hb : isBk b) (hb2 : isBk b2) (hd : 5 ≤ d)  (v : gV) (hp : p_X1_copyFrom_79 b b2    v) (hQ : gqV Q (f_X1_copyFrom_79 b b2   v)) : gG E m_X1_copyFrom d Q 0 0 (rS v) 79 [(0, .ref (gX E + b)), (1, .ref (gX E + b2))] [] := by
  refine g_aload_n 0 dX1_copyFrom_79 rfl ?_
  refine g_aload_n 1 dX1_copyFrom_80 rfl ?_
  refine r_get (.int (v.1 b2 8)) f_X1_72_X1 rfl (kbz hb2) (lt_b0 hb2) dX1_copyFrom_81 (fun _ => rfl) ?_
  refine r_put pf_X1_72_X1 rfl (kbz hb) (by decide) (by decide) rfl (lt_b0 hb) rfl rfl dX1_copyFrom_84 ?_
  exact w_X1_copyFrom_87 b b2 hb hb2 hd     (vM v b 8 (v.1 b2 8)) hp hQ
def f_X1_copyFrom_71 (b : Nat) (b2 : Nat)  (v : gV) : gV := f_X1_copyFrom_79 b b2   (vM v b 7 (v.1 b2 7))
def p_X1_copyFrom_71 (b : Nat) (b2 : Nat)  (v : gV) : Prop := p_X1_copyFrom_79 b b2    (vM v b 7 (v.1 b2 7))
set_option maxHeartbeats 4000000 in
set_option maxRecDepth 100000 in
theorem w_X1_copyFrom_71 {E : gE} {d : Nat} {Q : gO → gS → Prop} (b : Nat) (b2 : Nat) (hb : isBk b) (hb2 : isBk b2) (hd : 5 ≤ d)  (v : gV) (hp : p_X1_copyFrom_71 b b2    v) (hQ : gqV Q (f_X1_copyFrom_71 b b2   v)) : gG E m_X1_copyFrom d Q 0 0 (rS v) 71 [(0, .ref (gX E + b)), (1, .ref (gX E + b2))] [] := by
  refine g_aload_n 0 dX1_copyFrom_71 rfl ?_
  refine g_aload_n 1 dX1_copyFrom_72 rfl ?_
  refine r_get (.int (v.1 b2 7)) f_X1_69_X1 rfl (kbz hb2) (lt_b0 hb2) dX1_copyFrom_73 (fun _ => rfl) ?_
  refine r_put pf_X1_69_X1 rfl (kbz hb) (by decide) (by decide) rfl (lt_b0 hb) rfl rfl dX1_copyFrom_76 ?_
  exact w_X1_copyFrom_79 b b2 hb hb2 hd     (vM v b 7 (v.1 b2 7)) hp hQ
def f_X1_copyFrom_63 (b : Nat) (b2 : Nat)  (v : gV) : gV := f_X1_copyFrom_71 b b2   (vM v b 6 (v.1 b2 6))
def p_X1_copyFrom_63 (b : Nat) (b2 : Nat)  (v : gV) : Prop := p_X1_copyFrom_71 b b2    (vM v b 6 (v.1 b2 6))
set_option maxHeartbeats 4000000 in
set_option maxRecDepth 100000 in
theorem w_X1_copyFrom_63 {E : gE} {d : Nat} {Q : gO → gS → Prop} (b : Nat) (b2 : Nat) (hb : isBk b) (hb2 : isBk b2) (hd : 5 ≤ d)  (v : gV) (hp : p_X1_copyFrom_63 b b2    v) (hQ : gqV Q (f_X1_copyFrom_63 b b2   v)) : gG E m_X1_copyFrom d Q 0 0 (rS v) 63 [(0, .ref (gX E + b)), (1, .ref (gX E + b2))] [] := by
  refine g_aload_n 0 dX1_copyFrom_63 rfl ?_
  refine g_aload_n 1 dX1_copyFrom_64 rfl ?_
  refine r_get (.int (v.1 b2 6)) f_X1_66_X1 rfl (kbz hb2) (lt_b0 hb2) dX1_copyFrom_65 (fun _ => rfl) ?_
  refine r_put pf_X1_66_X1 rfl (kbz hb) (by decide) (by decide) rfl (lt_b0 hb) rfl rfl dX1_copyFrom_68 ?_
  exact w_X1_copyFrom_71 b b2 hb hb2 hd     (vM v b 6 (v.1 b2 6)) hp hQ
def f_X1_copyFrom_55 (b : Nat) (b2 : Nat)  (v : gV) : gV := f_X1_copyFrom_63 b b2   (vM v b 5 (v.1 b2 5))
def p_X1_copyFrom_55 (b : Nat) (b2 : Nat)  (v : gV) : Prop := p_X1_copyFrom_63 b b2    (vM v b 5 (v.1 b2 5))
set_option maxHeartbeats 4000000 in
set_option maxRecDepth 100000 in
theorem w_X1_copyFrom_55 {E : gE} {d : Nat} {Q : gO → gS → Prop} (b : Nat) (b2 : Nat) (hb : isBk b) (hb2 : isBk b2) (hd : 5 ≤ d)  (v : gV) (hp : p_X1_copyFrom_55 b b2    v) (hQ : gqV Q (f_X1_copyFrom_55 b b2   v)) : gG E m_X1_copyFrom d Q 0 0 (rS v) 55 [(0, .ref (gX E + b)), (1, .ref (gX E + b2))] [] := by
  refine g_aload_n 0 dX1_copyFrom_55 rfl ?_
  refine g_aload_n 1 dX1_copyFrom_56 rfl ?_
  refine r_get (.int (v.1 b2 5)) f_X1_62_X1 rfl (kbz hb2) (lt_b0 hb2) dX1_copyFrom_57 (fun _ => rfl) ?_
  refine r_put pf_X1_62_X1 rfl (kbz hb) (by decide) (by decide) rfl (lt_b0 hb) rfl rfl dX1_copyFrom_60 ?_
  exact w_X1_copyFrom_63 b b2 hb hb2 hd     (vM v b 5 (v.1 b2 5)) hp hQ
def f_X1_copyFrom_44 (b : Nat) (b2 : Nat)  (v : gV) : gV := f_X1_copyFrom_55 b b2   (f_X4_copyFrom b b2 v)
def p_X1_copyFrom_44 (b : Nat) (b2 : Nat)  (v : gV) : Prop := (p_X4_copyFrom b b2 v) ∧ (p_X1_copyFrom_55 b b2    (f_X4_copyFrom b b2 v))
set_option maxHeartbeats 4000000 in
set_option maxRecDepth 100000 in
theorem w_X1_copyFrom_44 {E : gE} {d : Nat} {Q : gO → gS → Prop} (b : Nat) (b2 : Nat) (hb : isBk b) (hb2 : isBk b2) (hd : 5 ≤ d)  (v : gV) (hp : p_X1_copyFrom_44 b b2    v) (hQ : gqV Q (f_X1_copyFrom_44 b b2   v)) : gG E m_X1_copyFrom d Q 0 0 (rS v) 44 [(0, .ref (gX E + b)), (1, .ref (gX E + b2))] [] := by
  refine g_aload_n 0 dX1_copyFrom_44 rfl ?_
  refine r_get (.ref (gX E + (b + 45))) f_X1_42_X1 rfl (kbz hb) (lt_b0 hb) dX1_copyFrom_45 (fun _ => rfl) ?_
  refine g_aload_n 1 dX1_copyFrom_48 rfl ?_
  refine r_get (.ref (gX E + (b2 + 45))) f_X1_42_X1 rfl (kbz hb2) (lt_b0 hb2) dX1_copyFrom_49 (fun _ => rfl) ?_
  obtain ⟨h5, hp⟩ := hp
  refine g_callV (rest := []) s_X1_59_X4 rfl (c_X4_copyFrom (E := E) (d := d - 1) b b2 hb hb2 (by omega)  v h5) (kb_45 hb) (lt_b hb (by decide)) rfl rfl (Nat.le_of_ble_eq_true rfl) (by omega) (by decide) (by decide) dX1_copyFrom_52 (adN ?_) axN
  exact w_X1_copyFrom_55 b b2 hb hb2 hd     (f_X4_copyFrom b b2 v) hp hQ
def f_X1_copyFrom_33 (b : Nat) (b2 : Nat)  (v : gV) : gV := f_X1_copyFrom_44 b b2   (f_X9_copyFrom b b2 v)
def p_X1_copyFrom_33 (b : Nat) (b2 : Nat)  (v : gV) : Prop := (p_X9_copyFrom b b2 v) ∧ (p_X1_copyFrom_44 b b2    (f_X9_copyFrom b b2 v))
set_option maxHeartbeats 4000000 in
set_option maxRecDepth 100000 in
theorem w_X1_copyFrom_33 {E : gE} {d : Nat} {Q : gO → gS → Prop} (b : Nat) (b2 : Nat) (hb : isBk b) (hb2 : isBk b2) (hd : 5 ≤ d)  (v : gV) (hp : p_X1_copyFrom_33 b b2    v) (hQ : gqV Q (f_X1_copyFrom_33 b b2   v)) : gG E m_X1_copyFrom d Q 0 0 (rS v) 33 [(0, .ref (gX E + b)), (1, .ref (gX E + b2))] [] := by
  refine g_aload_n 0 dX1_copyFrom_33 rfl ?_
  refine r_get (.ref (gX E + (b + 37))) f_X1_35_X1 rfl (kbz hb) (lt_b0 hb) dX1_copyFrom_34 (fun _ => rfl) ?_
  refine g_aload_n 1 dX1_copyFrom_37 rfl ?_
  refine r_get (.ref (gX E + (b2 + 37))) f_X1_35_X1 rfl (kbz hb2) (lt_b0 hb2) dX1_copyFrom_38 (fun _ => rfl) ?_
  obtain ⟨h4, hp⟩ := hp
  refine g_callV (rest := []) s_X1_56_X9 rfl (c_X9_copyFrom (E := E) (d := d - 1) b b2 hb hb2 (by omega)  v h4) (kb_37 hb) (lt_b hb (by decide)) rfl rfl (Nat.le_of_ble_eq_true rfl) (by omega) (by decide) (by decide) dX1_copyFrom_41 (adN ?_) axN
  exact w_X1_copyFrom_44 b b2 hb hb2 hd     (f_X9_copyFrom b b2 v) hp hQ
def f_X1_copyFrom_22 (b : Nat) (b2 : Nat)  (v : gV) : gV := f_X1_copyFrom_33 b b2   (f_X8_copyFrom b b2 v)
def p_X1_copyFrom_22 (b : Nat) (b2 : Nat)  (v : gV) : Prop := (p_X8_copyFrom b b2 v) ∧ (p_X1_copyFrom_33 b b2    (f_X8_copyFrom b b2 v))
set_option maxHeartbeats 4000000 in
set_option maxRecDepth 100000 in
theorem w_X1_copyFrom_22 {E : gE} {d : Nat} {Q : gO → gS → Prop} (b : Nat) (b2 : Nat) (hb : isBk b) (hb2 : isBk b2) (hd : 5 ≤ d)  (v : gV) (hp : p_X1_copyFrom_22 b b2    v) (hQ : gqV Q (f_X1_copyFrom_22 b b2   v)) : gG E m_X1_copyFrom d Q 0 0 (rS v) 22 [(0, .ref (gX E + b)), (1, .ref (gX E + b2))] [] := by
  refine g_aload_n 0 dX1_copyFrom_22 rfl ?_
  refine r_get (.ref (gX E + (b + 30))) f_X1_28_X1 rfl (kbz hb) (lt_b0 hb) dX1_copyFrom_23 (fun _ => rfl) ?_
  refine g_aload_n 1 dX1_copyFrom_26 rfl ?_
  refine r_get (.ref (gX E + (b2 + 30))) f_X1_28_X1 rfl (kbz hb2) (lt_b0 hb2) dX1_copyFrom_27 (fun _ => rfl) ?_
  obtain ⟨h3, hp⟩ := hp
  refine g_callV (rest := []) s_X1_53_X8 rfl (c_X8_copyFrom (E := E) (d := d - 1) b b2 hb hb2 (by omega)  v h3) (kb_30 hb) (lt_b hb (by decide)) rfl rfl (Nat.le_of_ble_eq_true rfl) (by omega) (by decide) (by decide) dX1_copyFrom_30 (adN ?_) axN
  exact w_X1_copyFrom_33 b b2 hb hb2 hd     (f_X8_copyFrom b b2 v) hp hQ
def f_X1_copyFrom_11 (b : Nat) (b2 : Nat)  (v : gV) : gV := f_X1_copyFrom_22 b b2   (f_X2_copyFrom b b2 v)
def p_X1_copyFrom_11 (b : Nat) (b2 : Nat)  (v : gV) : Prop := (p_X2_copyFrom b b2 v) ∧ (p_X1_copyFrom_22 b b2    (f_X2_copyFrom b b2 v))
set_option maxHeartbeats 4000000 in
set_option maxRecDepth 100000 in
theorem w_X1_copyFrom_11 {E : gE} {d : Nat} {Q : gO → gS → Prop} (b : Nat) (b2 : Nat) (hb : isBk b) (hb2 : isBk b2) (hd : 5 ≤ d)  (v : gV) (hp : p_X1_copyFrom_11 b b2    v) (hQ : gqV Q (f_X1_copyFrom_11 b b2   v)) : gG E m_X1_copyFrom d Q 0 0 (rS v) 11 [(0, .ref (gX E + b)), (1, .ref (gX E + b2))] [] := by
  refine g_aload_n 0 dX1_copyFrom_11 rfl ?_
  refine r_get (.ref (gX E + (b + 10))) f_X1_21_X1 rfl (kbz hb) (lt_b0 hb) dX1_copyFrom_12 (fun _ => rfl) ?_
  refine g_aload_n 1 dX1_copyFrom_15 rfl ?_
  refine r_get (.ref (gX E + (b2 + 10))) f_X1_21_X1 rfl (kbz hb2) (lt_b0 hb2) dX1_copyFrom_16 (fun _ => rfl) ?_
  obtain ⟨h2, hp⟩ := hp
  refine g_callV (rest := []) s_X1_50_X2 rfl (c_X2_copyFrom (E := E) (d := d - 1) b b2 hb hb2 (by omega)  v h2) (kb_10 hb) (lt_b hb (by decide)) rfl rfl (Nat.le_of_ble_eq_true rfl) (by omega) (by decide) (by decide) dX1_copyFrom_19 (adN ?_) axN
  exact w_X1_copyFrom_22 b b2 hb hb2 hd     (f_X2_copyFrom b b2 v) hp hQ
def f_X1_copyFrom_0 (b : Nat) (b2 : Nat)  (v : gV) : gV := f_X1_copyFrom_11 b b2   (f_X5_copyFrom b b2 v)
def p_X1_copyFrom_0 (b : Nat) (b2 : Nat)  (v : gV) : Prop := (p_X5_copyFrom b b2 v) ∧ (p_X1_copyFrom_11 b b2    (f_X5_copyFrom b b2 v))
set_option maxHeartbeats 4000000 in
set_option maxRecDepth 100000 in
theorem w_X1_copyFrom_0 {E : gE} {d : Nat} {Q : gO → gS → Prop} (b : Nat) (b2 : Nat) (hb : isBk b) (hb2 : isBk b2) (hd : 5 ≤ d)  (v : gV) (hp : p_X1_copyFrom_0 b b2    v) (hQ : gqV Q (f_X1_copyFrom_0 b b2   v)) : gG E m_X1_copyFrom d Q 0 0 (rS v) 0 [(0, .ref (gX E + b)), (1, .ref (gX E + b2))] [] := by
  refine g_aload_n 0 dX1_copyFrom_0 rfl ?_
  refine r_get (.ref (gX E + (b + 1))) f_X1_12_X1 rfl (kbz hb) (lt_b0 hb) dX1_copyFrom_1 (fun _ => rfl) ?_
  refine g_aload_n 1 dX1_copyFrom_4 rfl ?_
  refine r_get (.ref (gX E + (b2 + 1))) f_X1_12_X1 rfl (kbz hb2) (lt_b0 hb2) dX1_copyFrom_5 (fun _ => rfl) ?_
  obtain ⟨h1, hp⟩ := hp
  refine g_callV (rest := []) s_X1_46_X5 rfl (c_X5_copyFrom (E := E) (d := d - 1) b b2 hb hb2 (by omega)  v h1) (kb_1 hb) (lt_b hb (by decide)) rfl rfl (Nat.le_of_ble_eq_true rfl) (by omega) (by decide) (by decide) dX1_copyFrom_8 (adN ?_) axN
  exact w_X1_copyFrom_11 b b2 hb hb2 hd     (f_X5_copyFrom b b2 v) hp hQ
def f_X1_copyFrom (b : Nat) (b2 : Nat)  (v : gV) : gV := f_X1_copyFrom_0 b b2  v
def p_X1_copyFrom (b : Nat) (b2 : Nat)  (v : gV) : Prop := p_X1_copyFrom_0 b b2  v
theorem c_X1_copyFrom {E : gE} {d : Nat} (b : Nat) (b2 : Nat) (hb : isBk b) (hb2 : isBk b2) (hd : 5 ≤ d)  (v : gV) (hp : p_X1_copyFrom b b2  v) : CT E m_X1_copyFrom d 0 0 [.ref (gX E + b), .ref (gX E + b2)] (rS v) (Cq (.inl none) (f_X1_copyFrom b b2  v)) := CT.of ok_X1_copyFrom rfl (Nat.le_of_ble_eq_true rfl) (w_X1_copyFrom_0 b b2 hb hb2 hd  v hp ⟨rfl, rfl⟩)
def f_X1_makePolicy_54 (b : Nat) (x4 : Int32) (v : gV) : (Int32 ⊕ String) × gV := (Sum.inl (v.1 (b + 2) x4.toNatClampNeg), v)
def p_X1_makePolicy_54 (b : Nat) (x4 : Int32) (v : gV) : Prop := (vp_in x4 8) ∧ (True)
set_option maxHeartbeats 4000000 in
set_option maxRecDepth 100000 in
theorem w_X1_makePolicy_54 {E : gE} {d : Nat} {Q : gO → gS → Prop} (b : Nat) (hb : isBk b) (hd : 10 ≤ d) (x4 : Int32) (v : gV) (hp : p_X1_makePolicy_54 b   x4 v) (hQ : gqTIV Q (f_X1_makePolicy_54 b  x4 v)) : gG E m_X1_makePolicy d Q 0 0 (rS v) 54 [(0, .ref (gX E + b)), (4, .int x4)] [] := by
  refine g_aload_n 0 dX1_makePolicy_54 rfl ?_
  refine r_get (.ref (gX E + (b + 1))) f_X1_12_X1 rfl (kbz hb) (lt_b0 hb) dX1_makePolicy_55 (fun _ => rfl) ?_
  refine r_get (.ref (gX E + (b + 2))) f_X1_92_X5 rfl (kb_1 hb) (lt_b hb (by decide)) dX1_makePolicy_58 (fun _ => rfl) ?_
  refine g_iload 1 dX1_makePolicy_61 rfl ?_
  obtain ⟨h6, hp⟩ := hp
  refine g_iald (kb_2 hb) (lt_b hb (by decide)) h6 dX1_makePolicy_63 ?_
  exact g_iret rfl dX1_makePolicy_64 hQ
def f_X1_makePolicy_35 (b : Nat) (x4 : Int32) (v : gV) : (Int32 ⊕ String) × gV := f_X1_makePolicy_54 b  x4 (vM v b 6 ((v.1 b 6) + (v.1 (b + 7) x4.toNatClampNeg)))
def p_X1_makePolicy_35 (b : Nat) (x4 : Int32) (v : gV) : Prop := (vp_in x4 8) ∧ (p_X1_makePolicy_54 b   x4 (vM v b 6 ((v.1 b 6) + (v.1 (b + 7) x4.toNatClampNeg))))
set_option maxHeartbeats 4000000 in
set_option maxRecDepth 100000 in
theorem w_X1_makePolicy_35 {E : gE} {d : Nat} {Q : gO → gS → Prop} (b : Nat) (hb : isBk b) (hd : 10 ≤ d) (x4 : Int32) (v : gV) (hp : p_X1_makePolicy_35 b   x4 v) (hQ : gqTIV Q (f_X1_makePolicy_35 b  x4 v)) : gG E m_X1_makePolicy d Q 0 0 (rS v) 35 [(0, .ref (gX E + b)), (4, .int x4)] [] := by
  refine g_aload_n 0 dX1_makePolicy_35 rfl ?_
  refine g_dup dX1_makePolicy_36 rfl ?_
  refine r_get (.int (v.1 b 6)) f_X1_66_X1 rfl (kbz hb) (lt_b0 hb) dX1_makePolicy_37 (fun _ => rfl) ?_
  refine g_aload_n 0 dX1_makePolicy_40 rfl ?_
  refine r_get (.ref (gX E + (b + 1))) f_X1_12_X1 rfl (kbz hb) (lt_b0 hb) dX1_makePolicy_41 (fun _ => rfl) ?_
  refine r_get (.ref (gX E + (b + 7))) f_X1_88_X5 rfl (kb_1 hb) (lt_b hb (by decide)) dX1_makePolicy_44 (fun _ => rfl) ?_
  refine g_iload 1 dX1_makePolicy_47 rfl ?_
  obtain ⟨h5, hp⟩ := hp
  refine g_iald (kb_7 hb) (lt_b hb (by decide)) h5 dX1_makePolicy_49 ?_
  refine g_iadd dX1_makePolicy_50 ?_
  refine r_put pf_X1_66_X1 rfl (kbz hb) (by decide) (by decide) rfl (lt_b0 hb) rfl rfl dX1_makePolicy_51 ?_
  exact w_X1_makePolicy_54 b hb hd    x4 (vM v b 6 ((v.1 b 6) + (v.1 (b + 7) x4.toNatClampNeg))) hp hQ
def f_X1_makePolicy_14 (b : Nat) (s0 : Int32) (v : gV) : (Int32 ⊕ String) × gV := f_X1_makePolicy_35 b  s0 (vM v b 7 ((v.1 b 7) + (v.1 (b + 7) s0.toNatClampNeg)))
def p_X1_makePolicy_14 (b : Nat) (s0 : Int32) (v : gV) : Prop := (vp_in s0 8) ∧ (p_X1_makePolicy_35 b   s0 (vM v b 7 ((v.1 b 7) + (v.1 (b + 7) s0.toNatClampNeg))))
set_option maxHeartbeats 4000000 in
set_option maxRecDepth 100000 in
theorem w_X1_makePolicy_14 {E : gE} {d : Nat} {Q : gO → gS → Prop} (b : Nat) (hb : isBk b) (hd : 10 ≤ d) (s0 : Int32) (v : gV) (hp : p_X1_makePolicy_14 b   s0 v) (hQ : gqTIV Q (f_X1_makePolicy_14 b  s0 v)) : gG E m_X1_makePolicy d Q 0 0 (rS v) 14 [(0, .ref (gX E + b))] [.int s0] := by
  refine g_istore [(4, .int s0), (0, .ref (gX E + b))] dX1_makePolicy_14 (by decide) rfl ?_
  refine g_aload_n 1 dX1_makePolicy_16 rfl ?_
  refine g_dup dX1_makePolicy_17 rfl ?_
  refine r_get (.int (v.1 b 7)) f_X1_69_X1 rfl (kbz hb) (lt_b0 hb) dX1_makePolicy_18 (fun _ => rfl) ?_
  refine g_aload_n 1 dX1_makePolicy_21 rfl ?_
  refine r_get (.ref (gX E + (b + 1))) f_X1_12_X1 rfl (kbz hb) (lt_b0 hb) dX1_makePolicy_22 (fun _ => rfl) ?_
  refine r_get (.ref (gX E + (b + 7))) f_X1_88_X5 rfl (kb_1 hb) (lt_b hb (by decide)) dX1_makePolicy_25 (fun _ => rfl) ?_
  refine g_iload 0 dX1_makePolicy_28 rfl ?_
  obtain ⟨h4, hp⟩ := hp
  refine g_iald (kb_7 hb) (lt_b hb (by decide)) h4 dX1_makePolicy_30 ?_
  refine g_iadd dX1_makePolicy_31 ?_
  refine r_put pf_X1_69_X1 rfl (kbz hb) (by decide) (by decide) rfl (lt_b0 hb) rfl rfl dX1_makePolicy_32 ?_
  refine g_lv (lv' := [(0, .ref (gX E + b)), (4, .int s0)]) [1, 0] rfl ?_
  exact w_X1_makePolicy_35 b hb hd    s0 (vM v b 7 ((v.1 b 7) + (v.1 (b + 7) s0.toNatClampNeg))) hp hQ
def f_X1_makePolicy_0 (b : Nat) (x1 : Int32) (x2 : Int32) (x3 : Int32) (v : gV) : (Int32 ⊕ String) × gV := Sum.elim (fun (sr2 : Int32) => f_X1_makePolicy_14 b  sr2 (f_X5_add b x1 x2 x3 (v.1 b 5) v).2) (fun (e : String) => (Sum.inr e, (f_X5_add b x1 x2 x3 (v.1 b 5) v).2)) (f_X5_add b x1 x2 x3 (v.1 b 5) v).1
def p_X1_makePolicy_0 (b : Nat) (x1 : Int32) (x2 : Int32) (x3 : Int32) (v : gV) : Prop := (p_X5_add b x1 x2 x3 (v.1 b 5) v) ∧ (∀ (sr2 : Int32), (f_X5_add b x1 x2 x3 (v.1 b 5) v).1 = Sum.inl sr2 → (p_X1_makePolicy_14 b   sr2 (f_X5_add b x1 x2 x3 (v.1 b 5) v).2))
set_option maxHeartbeats 4000000 in
set_option maxRecDepth 100000 in
theorem w_X1_makePolicy_0 {E : gE} {d : Nat} {Q : gO → gS → Prop} (b : Nat) (hb : isBk b) (hd : 10 ≤ d) (x1 : Int32) (x2 : Int32) (x3 : Int32) (v : gV) (hp : p_X1_makePolicy_0 b   x1 x2 x3 v) (hQ : gqTIV Q (f_X1_makePolicy_0 b  x1 x2 x3 v)) : gG E m_X1_makePolicy d Q 4 24 (rS v) 0 [(0, .ref (gX E + b)), (1, .int x1), (2, .int x2), (3, .int x3)] [] := by
  refine g_aload_n 0 dX1_makePolicy_0 rfl ?_
  refine r_get (.ref (gX E + (b + 1))) f_X1_12_X1 rfl (kbz hb) (lt_b0 hb) dX1_makePolicy_1 (fun _ => rfl) ?_
  refine g_iload_n 1 dX1_makePolicy_4 rfl ?_
  refine g_iload_n 2 dX1_makePolicy_5 rfl ?_
  refine g_iload_n 3 dX1_makePolicy_6 rfl ?_
  refine g_aload_n 0 dX1_makePolicy_7 rfl ?_
  refine r_get (.int (v.1 b 5)) f_X1_62_X1 rfl (kbz hb) (lt_b0 hb) dX1_makePolicy_8 (fun _ => rfl) ?_
  obtain ⟨h1, hp⟩ := hp
  refine g_callV (rest := []) s_X1_84_X5 rfl (c_X5_add (E := E) (d := d - 1) b hb (by omega) x1 x2 x3 (v.1 b 5) v h1) (kb_1 hb) (lt_b hb (by decide)) rfl rfl (Nat.le_of_ble_eq_true rfl) (by omega) (by decide) (by decide) dX1_makePolicy_11 (adTI (fun sr2 h3 => ?_)) (axTI (fun e h3 => g_outs rfl rfl (qe (P := gqTIV Q) h3 hQ)))
  have hQ := ql (P := gqTIV Q) h3 hQ
  have hp := hp sr2 h3
  refine g_lv (lv' := [(0, .ref (gX E + b))]) [0] rfl ?_
  exact w_X1_makePolicy_14 b hb hd    sr2 (f_X5_add b x1 x2 x3 (v.1 b 5) v).2 hp hQ
def f_X1_makePolicy (b : Nat) (x1 : Int32) (x2 : Int32) (x3 : Int32) (v : gV) : (Int32 ⊕ String) × gV := f_X1_makePolicy_0 b x1 x2 x3 v
def p_X1_makePolicy (b : Nat) (x1 : Int32) (x2 : Int32) (x3 : Int32) (v : gV) : Prop := p_X1_makePolicy_0 b x1 x2 x3 v
theorem c_X1_makePolicy {E : gE} {d : Nat} (b : Nat) (hb : isBk b) (hd : 10 ≤ d) (x1 : Int32) (x2 : Int32) (x3 : Int32) (v : gV) (hp : p_X1_makePolicy b x1 x2 x3 v) : CT E m_X1_makePolicy d 4 24 [.ref (gX E + b), .int x1, .int x2, .int x3] (rS v) (Cq (gOi (f_X1_makePolicy b x1 x2 x3 v).1) (f_X1_makePolicy b x1 x2 x3 v).2) := CT.of ok_X1_makePolicy rfl (Nat.le_of_ble_eq_true rfl) (w_X1_makePolicy_0 b hb hd x1 x2 x3 v hp ⟨rfl, rfl⟩)
def f_X1_removePolicy_81 (b : Nat) (x3 : Int32) (v : gV) : (Int32 ⊕ String) × gV := (Sum.inl x3, v)
def p_X1_removePolicy_81 (b : Nat) (x3 : Int32) (v : gV) : Prop := True
set_option maxHeartbeats 4000000 in
set_option maxRecDepth 100000 in
theorem w_X1_removePolicy_81 {E : gE} {d : Nat} {Q : gO → gS → Prop} (b : Nat) (hb : isBk b) (hd : 8 ≤ d) (x3 : Int32) (v : gV) (hp : p_X1_removePolicy_81 b   x3 v) (hQ : gqTIV Q (f_X1_removePolicy_81 b  x3 v)) : gG E m_X1_removePolicy d Q 0 0 (rS v) 81 [(3, .int x3)] [] := by
  refine g_iload_n 0 dX1_removePolicy_81 rfl ?_
  exact g_iret rfl dX1_removePolicy_82 hQ
def f_X1_removePolicy_71 (b : Nat) (x3 : Int32) (v : gV) : (Int32 ⊕ String) × gV := f_X1_removePolicy_81 b  x3 (vM v b 6 ((v.1 b 6) - x3))
def p_X1_removePolicy_71 (b : Nat) (x3 : Int32) (v : gV) : Prop := p_X1_removePolicy_81 b   x3 (vM v b 6 ((v.1 b 6) - x3))
set_option maxHeartbeats 4000000 in
set_option maxRecDepth 100000 in
theorem w_X1_removePolicy_71 {E : gE} {d : Nat} {Q : gO → gS → Prop} (b : Nat) (hb : isBk b) (hd : 8 ≤ d) (x3 : Int32) (v : gV) (hp : p_X1_removePolicy_71 b   x3 v) (hQ : gqTIV Q (f_X1_removePolicy_71 b  x3 v)) : gG E m_X1_removePolicy d Q 0 0 (rS v) 71 [(0, .ref (gX E + b)), (3, .int x3)] [] := by
  refine g_aload_n 0 dX1_removePolicy_71 rfl ?_
  refine g_dup dX1_removePolicy_72 rfl ?_
  refine r_get (.int (v.1 b 6)) f_X1_66_X1 rfl (kbz hb) (lt_b0 hb) dX1_removePolicy_73 (fun _ => rfl) ?_
  refine g_iload_n 1 dX1_removePolicy_76 rfl ?_
  refine g_isub dX1_removePolicy_77 ?_
  refine r_put pf_X1_66_X1 rfl (kbz hb) (by decide) (by decide) rfl (lt_b0 hb) rfl rfl dX1_removePolicy_78 ?_
  refine g_lv (lv' := [(3, .int x3)]) [1] rfl ?_
  exact w_X1_removePolicy_81 b hb hd    x3 (vM v b 6 ((v.1 b 6) - x3)) hp hQ
def f_X1_removePolicy_61 (b : Nat) (x3 : Int32) (v : gV) : (Int32 ⊕ String) × gV := f_X1_removePolicy_71 b  x3 (vM v b 8 ((v.1 b 8) + x3))
def p_X1_removePolicy_61 (b : Nat) (x3 : Int32) (v : gV) : Prop := p_X1_removePolicy_71 b   x3 (vM v b 8 ((v.1 b 8) + x3))
set_option maxHeartbeats 4000000 in
set_option maxRecDepth 100000 in
theorem w_X1_removePolicy_61 {E : gE} {d : Nat} {Q : gO → gS → Prop} (b : Nat) (hb : isBk b) (hd : 8 ≤ d) (x3 : Int32) (v : gV) (hp : p_X1_removePolicy_61 b   x3 v) (hQ : gqTIV Q (f_X1_removePolicy_61 b  x3 v)) : gG E m_X1_removePolicy d Q 0 0 (rS v) 61 [(0, .ref (gX E + b)), (3, .int x3)] [] := by
  refine g_aload_n 0 dX1_removePolicy_61 rfl ?_
  refine g_dup dX1_removePolicy_62 rfl ?_
  refine r_get (.int (v.1 b 8)) f_X1_72_X1 rfl (kbz hb) (lt_b0 hb) dX1_removePolicy_63 (fun _ => rfl) ?_
  refine g_iload_n 1 dX1_removePolicy_66 rfl ?_
  refine g_iadd dX1_removePolicy_67 ?_
  refine r_put pf_X1_72_X1 rfl (kbz hb) (by decide) (by decide) rfl (lt_b0 hb) rfl rfl dX1_removePolicy_68 ?_
  exact w_X1_removePolicy_71 b hb hd    x3 (vM v b 8 ((v.1 b 8) + x3)) hp hQ
def f_X1_removePolicy_8 (b : Nat) (x1 : Int32) (s0 : Int32) (v : gV) : (Int32 ⊕ String) × gV := if (f_X11_find (b + 12) 12 (v.1 (b + 10) 1) x1 v) < 0 then (f_X1_removePolicy_61 b  (f_X5_refundAt b s0 (v.1 b 5) v) (f_X5_remove b s0 v)) else ((Sum.inr "java/lang/IllegalStateException", v))
def p_X1_removePolicy_8 (b : Nat) (x1 : Int32) (s0 : Int32) (v : gV) : Prop := (p_X11_find (b + 12) 12 (v.1 (b + 10) 1) x1 v) ∧ ((((f_X11_find (b + 12) 12 (v.1 (b + 10) 1) x1 v) < 0) → ((p_X5_refundAt b s0 (v.1 b 5) v) ∧ ((p_X5_remove b s0 v) ∧ (p_X1_removePolicy_61 b   (f_X5_refundAt b s0 (v.1 b 5) v) (f_X5_remove b s0 v))))) ∧ (¬ ((f_X11_find (b + 12) 12 (v.1 (b + 10) 1) x1 v) < 0) → (True)))
set_option maxHeartbeats 4000000 in
set_option maxRecDepth 100000 in
theorem w_X1_removePolicy_8 {E : gE} {d : Nat} {Q : gO → gS → Prop} (b : Nat) (hb : isBk b) (hd : 8 ≤ d) (x1 : Int32) (s0 : Int32) (v : gV) (hp : p_X1_removePolicy_8 b   x1 s0 v) (hQ : gqTIV Q (f_X1_removePolicy_8 b  x1 s0 v)) : gG E m_X1_removePolicy d Q 1 6 (rS v) 8 [(0, .ref (gX E + b)), (1, .int x1)] [.int s0] := by
  refine g_istore_n [(2, .int s0), (0, .ref (gX E + b)), (1, .int x1)] dX1_removePolicy_8 rfl (by decide) rfl ?_
  refine g_aload_n 1 dX1_removePolicy_9 rfl ?_
  refine r_get (.ref (gX E + (b + 10))) f_X1_21_X1 rfl (kbz hb) (lt_b0 hb) dX1_removePolicy_10 (fun _ => rfl) ?_
  refine r_get (.ref (gX E + (b + 12))) f_X1_99_X2 rfl (kb_10 hb) (lt_b hb (by decide)) dX1_removePolicy_13 (fun _ => rfl) ?_
  refine g_aload_n 1 dX1_removePolicy_16 rfl ?_
  refine r_get (.ref (gX E + (b + 10))) f_X1_21_X1 rfl (kbz hb) (lt_b0 hb) dX1_removePolicy_17 (fun _ => rfl) ?_
  refine r_get (.int (v.1 (b + 10) 1)) f_X1_101_X2 rfl (kb_10 hb) (lt_b hb (by decide)) dX1_removePolicy_20 (fun _ => rfl) ?_
  refine g_iload_n 2 dX1_removePolicy_23 rfl ?_
  obtain ⟨h4, hp⟩ := hp
  refine g_callN (rest := []) s_X1_104 rfl (c_X11_find (E := E) (d := d - 1) (b + 12) 12 (by decide) (kb_12 hb) (lt_b hb (by decide)) (by omega) (v.1 (b + 10) 1) x1 v h4) rfl rfl (Nat.le_of_ble_eq_true rfl) (by omega) (by decide) (by decide) dX1_removePolicy_24 (adV ?_) axN
  refine g_if_lt 40 dX1_removePolicy_27 (by decide) (fun h5 => ?_) (fun h5 => ?_)
  · have hQ := qp (P := gqTIV Q) h5 hQ
    have hp := hp.1 h5
    refine g_aload_n 1 dX1_removePolicy_40 rfl ?_
    refine r_get (.ref (gX E + (b + 1))) f_X1_12_X1 rfl (kbz hb) (lt_b0 hb) dX1_removePolicy_41 (fun _ => rfl) ?_
    refine g_iload_n 0 dX1_removePolicy_44 rfl ?_
    refine g_aload_n 1 dX1_removePolicy_45 rfl ?_
    refine r_get (.int (v.1 b 5)) f_X1_62_X1 rfl (kbz hb) (lt_b0 hb) dX1_removePolicy_46 (fun _ => rfl) ?_
    obtain ⟨h6, hp⟩ := hp
    refine g_callV (rest := []) s_X1_115_X5 rfl (c_X5_refundAt (E := E) (d := d - 1) b hb (by omega) s0 (v.1 b 5) v h6) (kb_1 hb) (lt_b hb (by decide)) rfl rfl (Nat.le_of_ble_eq_true rfl) (by omega) (by decide) (by decide) dX1_removePolicy_49 (adV ?_) axN
    refine g_istore_n [(3, .int ((f_X5_refundAt b s0 (v.1 b 5) v))), (2, .int s0), (0, .ref (gX E + b)), (1, .int x1)] dX1_removePolicy_52 rfl (by decide) rfl ?_
    refine g_aload_n 2 dX1_removePolicy_53 rfl ?_
    refine r_get (.ref (gX E + (b + 1))) f_X1_12_X1 rfl (kbz hb) (lt_b0 hb) dX1_removePolicy_54 (fun _ => rfl) ?_
    refine g_iload_n 1 dX1_removePolicy_57 rfl ?_
    obtain ⟨h7, hp⟩ := hp
    refine g_callV (rest := []) s_X1_119_X5 rfl (c_X5_remove (E := E) (d := d - 1) b hb (by omega) s0 v h7) (kb_1 hb) (lt_b hb (by decide)) rfl rfl (Nat.le_of_ble_eq_true rfl) (by omega) (by decide) (by decide) dX1_removePolicy_58 (adN ?_) axN
    refine g_room (k' := 0) (n' := 0) (by decide) (by decide) ?_
    refine g_lv (lv' := [(0, .ref (gX E + b)), (3, .int ((f_X5_refundAt b s0 (v.1 b 5) v)))]) [2, 0] rfl ?_
    exact w_X1_removePolicy_61 b hb hd    (f_X5_refundAt b s0 (v.1 b 5) v) (f_X5_remove b s0 v) hp hQ
  · have hQ := qn (P := gqTIV Q) h5 hQ
    have hp := hp.2 h5
    exact g_throwS rfl t_X1_108_110 rfl rfl rfl (by omega) (by decide) (by decide) (Nat.le_of_ble_eq_true rfl) dX1_removePolicy_30 dX1_removePolicy_33 dX1_removePolicy_34 dX1_removePolicy_36 dX1_removePolicy_39 hQ
def f_X1_removePolicy_0 (b : Nat) (x1 : Int32) (v : gV) : (Int32 ⊕ String) × gV := Sum.elim (fun (sr2 : Int32) => f_X1_removePolicy_8 b  x1 sr2 v) (fun (e : String) => (Sum.inr e, v)) (f_X6_placeOf_P b x1 v)
def p_X1_removePolicy_0 (b : Nat) (x1 : Int32) (v : gV) : Prop := (p_X6_placeOf_P b x1 v) ∧ (∀ (sr2 : Int32), (f_X6_placeOf_P b x1 v) = Sum.inl sr2 → (p_X1_removePolicy_8 b   x1 sr2 v))
set_option maxHeartbeats 4000000 in
set_option maxRecDepth 100000 in
theorem w_X1_removePolicy_0 {E : gE} {d : Nat} {Q : gO → gS → Prop} (b : Nat) (hb : isBk b) (hd : 8 ≤ d) (x1 : Int32) (v : gV) (hp : p_X1_removePolicy_0 b   x1 v) (hQ : gqTIV Q (f_X1_removePolicy_0 b  x1 v)) : gG E m_X1_removePolicy d Q 2 12 (rS v) 0 [(0, .ref (gX E + b)), (1, .int x1)] [] := by
  refine g_aload_n 0 dX1_removePolicy_0 rfl ?_
  refine r_get (.ref (gX E + (b + 1))) f_X1_12_X1 rfl (kbz hb) (lt_b0 hb) dX1_removePolicy_1 (fun _ => rfl) ?_
  refine g_iload_n 1 dX1_removePolicy_4 rfl ?_
  obtain ⟨h1, hp⟩ := hp
  refine g_callU (rest := []) s_X1_95_X5 rfl (c_X6_placeOf_P (E := E) (d := d - 1) b hb (by omega) x1 v h1) (kb_1 hb) (lt_b hb (by decide)) rfl rfl (Nat.le_of_ble_eq_true rfl) (by omega) (by decide) (by decide) dX1_removePolicy_5 (adTI (fun sr2 h3 => ?_)) (axTI (fun e h3 => g_outs rfl rfl (qe (P := gqTIV Q) h3 hQ)))
  have hQ := ql (P := gqTIV Q) h3 hQ
  have hp := hp sr2 h3
  exact w_X1_removePolicy_8 b hb hd    x1 sr2 v hp hQ
def f_X1_removePolicy (b : Nat) (x1 : Int32) (v : gV) : (Int32 ⊕ String) × gV := f_X1_removePolicy_0 b x1 v
def p_X1_removePolicy (b : Nat) (x1 : Int32) (v : gV) : Prop := p_X1_removePolicy_0 b x1 v
theorem c_X1_removePolicy {E : gE} {d : Nat} (b : Nat) (hb : isBk b) (hd : 8 ≤ d) (x1 : Int32) (v : gV) (hp : p_X1_removePolicy b x1 v) : CT E m_X1_removePolicy d 2 12 [.ref (gX E + b), .int x1] (rS v) (Cq (gOi (f_X1_removePolicy b x1 v).1) (f_X1_removePolicy b x1 v).2) := CT.of ok_X1_removePolicy rfl (Nat.le_of_ble_eq_true rfl) (w_X1_removePolicy_0 b hb hd x1 v hp ⟨rfl, rfl⟩)
def f_X1_makeClaim_63 (b : Nat)  (v : gV) : (Int32 ⊕ String) × gV := (Sum.inr "java/lang/IllegalStateException", v)
def p_X1_makeClaim_63 (b : Nat)  (v : gV) : Prop := True
set_option maxHeartbeats 4000000 in
set_option maxRecDepth 100000 in
theorem w_X1_makeClaim_63 {E : gE} {d : Nat} {Q : gO → gS → Prop} (b : Nat) (hb : isBk b) (hd : 10 ≤ d)  (v : gV) (hp : p_X1_makeClaim_63 b    v) (hQ : gqTIV Q (f_X1_makeClaim_63 b   v)) : gG E m_X1_makeClaim d Q 1 6 (rS v) 63 [] [] := by
  exact g_throwS rfl t_X1_108_158 rfl rfl rfl (by omega) (by decide) (by decide) (Nat.le_of_ble_eq_true rfl) dX1_makeClaim_63 dX1_makeClaim_66 dX1_makeClaim_67 dX1_makeClaim_69 dX1_makeClaim_72 hQ
def f_X1_makeClaim_168 (b : Nat) (x6 : Int32) (v : gV) : (Int32 ⊕ String) × gV := (Sum.inl (v.1 (b + 11) x6.toNatClampNeg), v)
def p_X1_makeClaim_168 (b : Nat) (x6 : Int32) (v : gV) : Prop := (vp_in x6 12) ∧ (True)
set_option maxHeartbeats 4000000 in
set_option maxRecDepth 100000 in
theorem w_X1_makeClaim_168 {E : gE} {d : Nat} {Q : gO → gS → Prop} (b : Nat) (hb : isBk b) (hd : 10 ≤ d) (x6 : Int32) (v : gV) (hp : p_X1_makeClaim_168 b   x6 v) (hQ : gqTIV Q (f_X1_makeClaim_168 b  x6 v)) : gG E m_X1_makeClaim d Q 0 0 (rS v) 168 [(0, .ref (gX E + b)), (6, .int x6)] [] := by
  refine g_aload_n 0 dX1_makeClaim_168 rfl ?_
  refine r_get (.ref (gX E + (b + 10))) f_X1_21_X1 rfl (kbz hb) (lt_b0 hb) dX1_makeClaim_169 (fun _ => rfl) ?_
  refine r_get (.ref (gX E + (b + 11))) f_X1_191_X2 rfl (kb_10 hb) (lt_b hb (by decide)) dX1_makeClaim_172 (fun _ => rfl) ?_
  refine g_iload 1 dX1_makeClaim_175 rfl ?_
  obtain ⟨h22, hp⟩ := hp
  refine g_iald (kb_11 hb) (lt_b hb (by decide)) h22 dX1_makeClaim_177 ?_
  exact g_iret rfl dX1_makeClaim_178 hQ
def f_X1_makeClaim_153 (b : Nat) (x4 : Int32) (x5 : Int32) (x6 : Int32) (v : gV) : (Int32 ⊕ String) × gV := f_X1_makeClaim_168 b  x6 (vM v (b + 8) x4.toNatClampNeg ((v.1 (b + 8) x4.toNatClampNeg) + x5))
def p_X1_makeClaim_153 (b : Nat) (x4 : Int32) (x5 : Int32) (x6 : Int32) (v : gV) : Prop := (vp_in x4 8) ∧ ((vp_in x4 8) ∧ (p_X1_makeClaim_168 b   x6 (vM v (b + 8) x4.toNatClampNeg ((v.1 (b + 8) x4.toNatClampNeg) + x5))))
set_option maxHeartbeats 4000000 in
set_option maxRecDepth 100000 in
theorem w_X1_makeClaim_153 {E : gE} {d : Nat} {Q : gO → gS → Prop} (b : Nat) (hb : isBk b) (hd : 10 ≤ d) (x4 : Int32) (x5 : Int32) (x6 : Int32) (v : gV) (hp : p_X1_makeClaim_153 b   x4 x5 x6 v) (hQ : gqTIV Q (f_X1_makeClaim_153 b  x4 x5 x6 v)) : gG E m_X1_makeClaim d Q 0 0 (rS v) 153 [(0, .ref (gX E + b)), (4, .int x4), (5, .int x5), (6, .int x6)] [] := by
  refine g_aload_n 0 dX1_makeClaim_153 rfl ?_
  refine r_get (.ref (gX E + (b + 1))) f_X1_12_X1 rfl (kbz hb) (lt_b0 hb) dX1_makeClaim_154 (fun _ => rfl) ?_
  refine r_get (.ref (gX E + (b + 8))) f_X1_188_X5 rfl (kb_1 hb) (lt_b hb (by decide)) dX1_makeClaim_157 (fun _ => rfl) ?_
  refine g_iload 1 dX1_makeClaim_160 rfl ?_
  refine g_dup2 dX1_makeClaim_162 rfl rfl ?_
  obtain ⟨h20, hp⟩ := hp
  refine g_iald (kb_8 hb) (lt_b hb (by decide)) h20 dX1_makeClaim_163 ?_
  refine g_iload 2 dX1_makeClaim_164 rfl ?_
  refine g_iadd dX1_makeClaim_166 ?_
  obtain ⟨h21, hp⟩ := hp
  refine r_iast (kb_8 hb) (lt_b hb (by decide)) h21 dX1_makeClaim_167 ?_
  refine g_lv (lv' := [(0, .ref (gX E + b)), (6, .int x6)]) [0, 3] rfl ?_
  exact w_X1_makeClaim_168 b hb hd    x6 (vM v (b + 8) x4.toNatClampNeg ((v.1 (b + 8) x4.toNatClampNeg) + x5)) hp hQ
def f_X1_makeClaim_125 (b : Nat) (x4 : Int32) (x5 : Int32) (s0 : Int32) (v : gV) : (Int32 ⊕ String) × gV := f_X1_makeClaim_153 b  x4 x5 s0 (f_X8_bearCoins b (b + 33) (b + 17 + 1 + (s0).toNatClampNeg) x5 v)
def p_X1_makeClaim_125 (b : Nat) (x4 : Int32) (x5 : Int32) (s0 : Int32) (v : gV) : Prop := (vp_in s0 12) ∧ ((p_X8_bearCoins b (b + 33) (b + 17 + 1 + (s0).toNatClampNeg) x5 v) ∧ (p_X1_makeClaim_153 b   x4 x5 s0 (f_X8_bearCoins b (b + 33) (b + 17 + 1 + (s0).toNatClampNeg) x5 v)))
set_option maxHeartbeats 4000000 in
set_option maxRecDepth 100000 in
theorem w_X1_makeClaim_125 {E : gE} {d : Nat} {Q : gO → gS → Prop} (b : Nat) (hb : isBk b) (hd : 10 ≤ d) (x4 : Int32) (x5 : Int32) (s0 : Int32) (v : gV) (hp : p_X1_makeClaim_125 b   x4 x5 s0 v) (hQ : gqTIV Q (f_X1_makeClaim_125 b  x4 x5 s0 v)) : gG E m_X1_makeClaim d Q 0 0 (rS v) 125 [(0, .ref (gX E + b)), (4, .int x4), (5, .int x5)] [.int s0] := by
  refine g_istore [(6, .int s0), (0, .ref (gX E + b)), (4, .int x4), (5, .int x5)] dX1_makeClaim_125 (by decide) rfl ?_
  refine g_aload_n 1 dX1_makeClaim_127 rfl ?_
  refine r_get (.ref (gX E + (b + 30))) f_X1_28_X1 rfl (kbz hb) (lt_b0 hb) dX1_makeClaim_128 (fun _ => rfl) ?_
  refine g_iload 3 dX1_makeClaim_131 rfl ?_
  refine g_aload_n 1 dX1_makeClaim_133 rfl ?_
  refine r_get (.ref (gX E + (b + 30))) f_X1_28_X1 rfl (kbz hb) (lt_b0 hb) dX1_makeClaim_134 (fun _ => rfl) ?_
  refine r_get (.ref (gX E + (b + 33))) f_X1_129_X8 rfl (kb_30 hb) (lt_b hb (by decide)) dX1_makeClaim_137 (fun _ => rfl) ?_
  refine g_aload_n 1 dX1_makeClaim_140 rfl ?_
  refine r_get (.ref (gX E + (b + 10))) f_X1_21_X1 rfl (kbz hb) (lt_b0 hb) dX1_makeClaim_141 (fun _ => rfl) ?_
  refine r_get (.ref (gX E + (b + 17))) f_X1_180_X2 rfl (kb_10 hb) (lt_b hb (by decide)) dX1_makeClaim_144 (fun _ => rfl) ?_
  refine g_iload 0 dX1_makeClaim_147 rfl ?_
  obtain ⟨h18, hp⟩ := hp
  refine r_aald (kb_17 hb) (lt_b hb (by decide)) h18 (by decide) dX1_makeClaim_149 ?_
  obtain ⟨h19, hp⟩ := hp
  refine g_callV (rest := []) s_X1_184_X8 rfl (c_X8_bearCoins (E := E) (d := d - 1) b (b + 33) (b + 17 + 1 + (s0).toNatClampNeg) hb (kb_33 hb) (lt_b hb (by decide)) (kg_17 hb h18) (lg_17 hb h18) (by omega) x5 v h19) (kb_30 hb) (lt_b hb (by decide)) rfl rfl (Nat.le_of_ble_eq_true rfl) (by omega) (by decide) (by decide) dX1_makeClaim_150 (adN ?_) axN
  refine g_lv (lv' := [(0, .ref (gX E + b)), (4, .int x4), (5, .int x5), (6, .int s0)]) [1, 2, 3, 0] rfl ?_
  exact w_X1_makeClaim_153 b hb hd    x4 x5 s0 (f_X8_bearCoins b (b + 33) (b + 17 + 1 + (s0).toNatClampNeg) x5 v) hp hQ
def f_X1_makeClaim_34 (b : Nat) (x1 : Int32) (x2 : Int32) (x3 : Int32) (x4 : Int32) (s0 : Int32) (v : gV) : (Int32 ⊕ String) × gV := if (f_X5_isActiveAt b x4 (v.1 b 5) v) = 0 then (f_X1_makeClaim_63 b   v) else (if (v.1 (b + 10) 1) < (12 : Int32) then (if (1 : Int32) ≤ (if (f_X5_leftAt b x4 v) < (x3 - (f_X1_deductible x2 x3 v)) then (f_X5_leftAt b x4 v) else (x3 - (f_X1_deductible x2 x3 v))) then (Sum.elim (fun (sr16 : Int32) => f_X1_makeClaim_125 b  x4 (if (f_X5_leftAt b x4 v) < (x3 - (f_X1_deductible x2 x3 v)) then (f_X5_leftAt b x4 v) else (x3 - (f_X1_deductible x2 x3 v))) sr16 (f_X2_add b x1 x2 (if (f_X5_leftAt b x4 v) < (x3 - (f_X1_deductible x2 x3 v)) then (f_X5_leftAt b x4 v) else (x3 - (f_X1_deductible x2 x3 v))) (v.1 b 5) v).2) (fun (e : String) => (Sum.inr e, (f_X2_add b x1 x2 (if (f_X5_leftAt b x4 v) < (x3 - (f_X1_deductible x2 x3 v)) then (f_X5_leftAt b x4 v) else (x3 - (f_X1_deductible x2 x3 v))) (v.1 b 5) v).2)) (f_X2_add b x1 x2 (if (f_X5_leftAt b x4 v) < (x3 - (f_X1_deductible x2 x3 v)) then (f_X5_leftAt b x4 v) else (x3 - (f_X1_deductible x2 x3 v))) (v.1 b 5) v).1) else ((Sum.inr "java/lang/UnsupportedOperationException", v))) else (f_X1_makeClaim_63 b   v))
def p_X1_makeClaim_34 (b : Nat) (x1 : Int32) (x2 : Int32) (x3 : Int32) (x4 : Int32) (s0 : Int32) (v : gV) : Prop := (p_X5_isActiveAt b x4 (v.1 b 5) v) ∧ ((((f_X5_isActiveAt b x4 (v.1 b 5) v) = 0) → (p_X1_makeClaim_63 b    v)) ∧ (¬ ((f_X5_isActiveAt b x4 (v.1 b 5) v) = 0) → ((((v.1 (b + 10) 1) < (12 : Int32)) → ((p_X1_deductible x2 x3 v) ∧ ((p_X5_leftAt b x4 v) ∧ ((((1 : Int32) ≤ (if (f_X5_leftAt b x4 v) < (x3 - (f_X1_deductible x2 x3 v)) then (f_X5_leftAt b x4 v) else (x3 - (f_X1_deductible x2 x3 v)))) → ((p_X2_add b x1 x2 (if (f_X5_leftAt b x4 v) < (x3 - (f_X1_deductible x2 x3 v)) then (f_X5_leftAt b x4 v) else (x3 - (f_X1_deductible x2 x3 v))) (v.1 b 5) v) ∧ (∀ (sr16 : Int32), (f_X2_add b x1 x2 (if (f_X5_leftAt b x4 v) < (x3 - (f_X1_deductible x2 x3 v)) then (f_X5_leftAt b x4 v) else (x3 - (f_X1_deductible x2 x3 v))) (v.1 b 5) v).1 = Sum.inl sr16 → (p_X1_makeClaim_125 b   x4 (if (f_X5_leftAt b x4 v) < (x3 - (f_X1_deductible x2 x3 v)) then (f_X5_leftAt b x4 v) else (x3 - (f_X1_deductible x2 x3 v))) sr16 (f_X2_add b x1 x2 (if (f_X5_leftAt b x4 v) < (x3 - (f_X1_deductible x2 x3 v)) then (f_X5_leftAt b x4 v) else (x3 - (f_X1_deductible x2 x3 v))) (v.1 b 5) v).2)))) ∧ (¬ ((1 : Int32) ≤ (if (f_X5_leftAt b x4 v) < (x3 - (f_X1_deductible x2 x3 v)) then (f_X5_leftAt b x4 v) else (x3 - (f_X1_deductible x2 x3 v)))) → (True)))))) ∧ (¬ ((v.1 (b + 10) 1) < (12 : Int32)) → (p_X1_makeClaim_63 b    v)))))
set_option maxHeartbeats 4000000 in
set_option maxRecDepth 100000 in
theorem w_X1_makeClaim_34 {E : gE} {d : Nat} {Q : gO → gS → Prop} (b : Nat) (hb : isBk b) (hd : 10 ≤ d) (x1 : Int32) (x2 : Int32) (x3 : Int32) (x4 : Int32) (s0 : Int32) (v : gV) (hp : p_X1_makeClaim_34 b   x1 x2 x3 x4 s0 v) (hQ : gqTIV Q (f_X1_makeClaim_34 b  x1 x2 x3 x4 s0 v)) : gG E m_X1_makeClaim d Q 1 6 (rS v) 34 [(0, .ref (gX E + b)), (1, .int x1), (2, .int x2), (3, .int x3), (4, .int x4)] [.int s0] := by
  refine g_pop dX1_makeClaim_34 rfl ?_
  refine g_aload_n 0 dX1_makeClaim_35 rfl ?_
  refine r_get (.ref (gX E + (b + 1))) f_X1_12_X1 rfl (kbz hb) (lt_b0 hb) dX1_makeClaim_36 (fun _ => rfl) ?_
  refine g_iload 4 dX1_makeClaim_39 rfl ?_
  refine g_aload_n 0 dX1_makeClaim_41 rfl ?_
  refine r_get (.int (v.1 b 5)) f_X1_62_X1 rfl (kbz hb) (lt_b0 hb) dX1_makeClaim_42 (fun _ => rfl) ?_
  obtain ⟨h9, hp⟩ := hp
  refine g_callV (rest := []) s_X1_154_X5 rfl (c_X5_isActiveAt (E := E) (d := d - 1) b hb (by omega) x4 (v.1 b 5) v h9) (kb_1 hb) (lt_b hb (by decide)) rfl rfl (Nat.le_of_ble_eq_true rfl) (by omega) (by decide) (by decide) dX1_makeClaim_45 (adV ?_) axN
  refine g_if_eq 63 dX1_makeClaim_48 (by decide) (fun h10 => ?_) (fun h10 => ?_)
  · have hQ := qp (P := gqTIV Q) h10 hQ
    have hp := hp.1 h10
    refine g_lv (lv' := []) [] rfl ?_
    exact w_X1_makeClaim_63 b hb hd     v hp hQ
  · have hQ := qn (P := gqTIV Q) h10 hQ
    have hp := hp.2 h10
    refine g_aload_n 0 dX1_makeClaim_51 rfl ?_
    refine r_get (.ref (gX E + (b + 10))) f_X1_21_X1 rfl (kbz hb) (lt_b0 hb) dX1_makeClaim_52 (fun _ => rfl) ?_
    refine r_get (.int (v.1 (b + 10) 1)) f_X1_101_X2 rfl (kb_10 hb) (lt_b hb (by decide)) dX1_makeClaim_55 (fun _ => rfl) ?_
    refine g_bipush dX1_makeClaim_58 (12 : Int32) (by decide) ?_
    refine g_icmp_lt 73 dX1_makeClaim_60 (by decide) (fun h11 => ?_) (fun h11 => ?_)
    · have hQ := qp (P := gqTIV Q) h11 hQ
      have hp := hp.1 h11
      refine g_iload_n 3 dX1_makeClaim_73 rfl ?_
      refine g_iload_n 2 dX1_makeClaim_74 rfl ?_
      refine g_iload_n 3 dX1_makeClaim_75 rfl ?_
      obtain ⟨h12, hp⟩ := hp
      refine g_callS (rest := [.int x3]) s_X1_160 rfl (c_X1_deductible (E := E) (d := d - 1)   (by omega) x2 x3 v h12) rfl rfl (Nat.le_of_ble_eq_true rfl) (by omega) (by decide) (by decide) dX1_makeClaim_76 (adV ?_) axN
      refine g_isub dX1_makeClaim_79 ?_
      refine g_aload_n 0 dX1_makeClaim_80 rfl ?_
      refine r_get (.ref (gX E + (b + 1))) f_X1_12_X1 rfl (kbz hb) (lt_b0 hb) dX1_makeClaim_81 (fun _ => rfl) ?_
      refine g_iload 4 dX1_makeClaim_84 rfl ?_
      obtain ⟨h13, hp⟩ := hp
      refine g_callV (rest := [.int (x3 - (f_X1_deductible x2 x3 v))]) s_X1_164_X5 rfl (c_X5_leftAt (E := E) (d := d - 1) b hb (by omega) x4 v h13) (kb_1 hb) (lt_b hb (by decide)) rfl rfl (Nat.le_of_ble_eq_true rfl) (by omega) (by decide) (by decide) dX1_makeClaim_86 (adV ?_) axN
      refine r_mmin mw_X1_167 rfl (Nat.le_of_ble_eq_true rfl) (by omega) dX1_makeClaim_89 ?_
      refine g_istore [(5, .int ((if (f_X5_leftAt b x4 v) < (x3 - (f_X1_deductible x2 x3 v)) then (f_X5_leftAt b x4 v) else (x3 - (f_X1_deductible x2 x3 v))))), (0, .ref (gX E + b)), (1, .int x1), (2, .int x2), (3, .int x3), (4, .int x4)] dX1_makeClaim_92 (by decide) rfl ?_
      refine g_iload 0 dX1_makeClaim_94 rfl ?_
      refine g_iconst dX1_makeClaim_96 (1 : Int32) (by decide) ?_
      refine g_icmp_ge 110 dX1_makeClaim_97 (by decide) (fun h14 => ?_) (fun h14 => ?_)
      · have hQ := qp (P := gqTIV Q) h14 hQ
        have hp := hp.1 h14
        refine g_aload_n 1 dX1_makeClaim_110 rfl ?_
        refine r_get (.ref (gX E + (b + 10))) f_X1_21_X1 rfl (kbz hb) (lt_b0 hb) dX1_makeClaim_111 (fun _ => rfl) ?_
        refine g_iload_n 2 dX1_makeClaim_114 rfl ?_
        refine g_iload_n 3 dX1_makeClaim_115 rfl ?_
        refine g_iload 0 dX1_makeClaim_116 rfl ?_
        refine g_aload_n 1 dX1_makeClaim_118 rfl ?_
        refine r_get (.int (v.1 b 5)) f_X1_62_X1 rfl (kbz hb) (lt_b0 hb) dX1_makeClaim_119 (fun _ => rfl) ?_
        obtain ⟨h15, hp⟩ := hp
        refine g_callV (rest := []) s_X1_177_X2 rfl (c_X2_add (E := E) (d := d - 1) b hb (by omega) x1 x2 (if (f_X5_leftAt b x4 v) < (x3 - (f_X1_deductible x2 x3 v)) then (f_X5_leftAt b x4 v) else (x3 - (f_X1_deductible x2 x3 v))) (v.1 b 5) v h15) (kb_10 hb) (lt_b hb (by decide)) rfl rfl (Nat.le_of_ble_eq_true rfl) (by omega) (by decide) (by decide) dX1_makeClaim_122 (adTI (fun sr16 h17 => ?_)) (axTI (fun e h17 => g_outs rfl rfl (qe (P := gqTIV Q) h17 hQ)))
        have hQ := ql (P := gqTIV Q) h17 hQ
        have hp := hp sr16 h17
        refine g_lv (lv' := [(0, .ref (gX E + b)), (4, .int x4), (5, .int ((if (f_X5_leftAt b x4 v) < (x3 - (f_X1_deductible x2 x3 v)) then (f_X5_leftAt b x4 v) else (x3 - (f_X1_deductible x2 x3 v)))))]) [1, 5, 0] rfl ?_
        exact w_X1_makeClaim_125 b hb hd    x4 (if (f_X5_leftAt b x4 v) < (x3 - (f_X1_deductible x2 x3 v)) then (f_X5_leftAt b x4 v) else (x3 - (f_X1_deductible x2 x3 v))) sr16 (f_X2_add b x1 x2 (if (f_X5_leftAt b x4 v) < (x3 - (f_X1_deductible x2 x3 v)) then (f_X5_leftAt b x4 v) else (x3 - (f_X1_deductible x2 x3 v))) (v.1 b 5) v).2 hp hQ
      · have hQ := qn (P := gqTIV Q) h14 hQ
        have hp := hp.2 h14
        exact g_throwS rfl t_X1_172_174 rfl rfl rfl (by omega) (by decide) (by decide) (Nat.le_of_ble_eq_true rfl) dX1_makeClaim_100 dX1_makeClaim_103 dX1_makeClaim_104 dX1_makeClaim_106 dX1_makeClaim_109 hQ
    · have hQ := qn (P := gqTIV Q) h11 hQ
      have hp := hp.2 h11
      refine g_lv (lv' := []) [] rfl ?_
      exact w_X1_makeClaim_63 b hb hd     v hp hQ
def f_X1_makeClaim_8 (b : Nat) (x1 : Int32) (x2 : Int32) (x3 : Int32) (s0 : Int32) (v : gV) : (Int32 ⊕ String) × gV := if (f_X11_isCause x2 v) = 0 then ((Sum.inr "java/lang/IllegalArgumentException", v)) else (Sum.elim (fun (sr7 : Int32) => f_X1_makeClaim_34 b  x1 x2 x3 s0 sr7 v) (fun (e : String) => (Sum.inr e, v)) (f_X11_checkedNumber x3 (1 : Int32) (99 : Int32) v))
def p_X1_makeClaim_8 (b : Nat) (x1 : Int32) (x2 : Int32) (x3 : Int32) (s0 : Int32) (v : gV) : Prop := (p_X11_isCause x2 v) ∧ ((((f_X11_isCause x2 v) = 0) → (True)) ∧ (¬ ((f_X11_isCause x2 v) = 0) → ((p_X11_checkedNumber x3 (1 : Int32) (99 : Int32) v) ∧ (∀ (sr7 : Int32), (f_X11_checkedNumber x3 (1 : Int32) (99 : Int32) v) = Sum.inl sr7 → (p_X1_makeClaim_34 b   x1 x2 x3 s0 sr7 v)))))
set_option maxHeartbeats 4000000 in
set_option maxRecDepth 100000 in
theorem w_X1_makeClaim_8 {E : gE} {d : Nat} {Q : gO → gS → Prop} (b : Nat) (hb : isBk b) (hd : 10 ≤ d) (x1 : Int32) (x2 : Int32) (x3 : Int32) (s0 : Int32) (v : gV) (hp : p_X1_makeClaim_8 b   x1 x2 x3 s0 v) (hQ : gqTIV Q (f_X1_makeClaim_8 b  x1 x2 x3 s0 v)) : gG E m_X1_makeClaim d Q 2 12 (rS v) 8 [(0, .ref (gX E + b)), (1, .int x1), (2, .int x2), (3, .int x3)] [.int s0] := by
  refine g_istore [(4, .int s0), (0, .ref (gX E + b)), (1, .int x1), (2, .int x2), (3, .int x3)] dX1_makeClaim_8 (by decide) rfl ?_
  refine g_iload_n 3 dX1_makeClaim_10 rfl ?_
  obtain ⟨h4, hp⟩ := hp
  refine g_callN (rest := []) s_X1_145 rfl (c_X11_isCause (E := E) (d := d - 1)   (by omega) x2 v h4) rfl rfl (Nat.le_of_ble_eq_true rfl) (by omega) (by decide) (by decide) dX1_makeClaim_11 (adV ?_) axN
  refine g_if_ne 27 dX1_makeClaim_14 (by decide) (fun h5 => ?_) (fun h5 => ?_)
  · have hQ := qn (P := gqTIV Q) h5 hQ
    have hp := hp.2 h5
    refine g_iload_n 4 dX1_makeClaim_27 rfl ?_
    refine g_iconst dX1_makeClaim_28 (1 : Int32) (by decide) ?_
    refine g_bipush dX1_makeClaim_29 (99 : Int32) (by decide) ?_
    obtain ⟨h6, hp⟩ := hp
    refine g_callN (rest := []) s_X1_123 rfl (c_X11_checkedNumber (E := E) (d := d - 1)   (by omega) x3 (1 : Int32) (99 : Int32) v h6) rfl rfl (Nat.le_of_ble_eq_true rfl) (by omega) (by decide) (by decide) dX1_makeClaim_31 (adTI (fun sr7 h8 => ?_)) (axTI (fun e h8 => g_outs rfl rfl (qe (P := gqTIV Q) h8 hQ)))
    have hQ := ql (P := gqTIV Q) h8 hQ
    have hp := hp sr7 h8
    refine g_lv (lv' := [(0, .ref (gX E + b)), (1, .int x1), (2, .int x2), (3, .int x3), (4, .int s0)]) [1, 2, 3, 4, 0] rfl ?_
    exact w_X1_makeClaim_34 b hb hd    x1 x2 x3 s0 sr7 v hp hQ
  · have hQ := qp (P := gqTIV Q) h5 hQ
    have hp := hp.1 h5
    exact g_throwS rfl t_X1_149_151 rfl rfl rfl (by omega) (by decide) (by decide) (Nat.le_of_ble_eq_true rfl) dX1_makeClaim_17 dX1_makeClaim_20 dX1_makeClaim_21 dX1_makeClaim_23 dX1_makeClaim_26 hQ
def f_X1_makeClaim_0 (b : Nat) (x1 : Int32) (x2 : Int32) (x3 : Int32) (v : gV) : (Int32 ⊕ String) × gV := Sum.elim (fun (sr2 : Int32) => f_X1_makeClaim_8 b  x1 x2 x3 sr2 v) (fun (e : String) => (Sum.inr e, v)) (f_X6_placeOf_P b x1 v)
def p_X1_makeClaim_0 (b : Nat) (x1 : Int32) (x2 : Int32) (x3 : Int32) (v : gV) : Prop := (p_X6_placeOf_P b x1 v) ∧ (∀ (sr2 : Int32), (f_X6_placeOf_P b x1 v) = Sum.inl sr2 → (p_X1_makeClaim_8 b   x1 x2 x3 sr2 v))
set_option maxHeartbeats 4000000 in
set_option maxRecDepth 100000 in
theorem w_X1_makeClaim_0 {E : gE} {d : Nat} {Q : gO → gS → Prop} (b : Nat) (hb : isBk b) (hd : 10 ≤ d) (x1 : Int32) (x2 : Int32) (x3 : Int32) (v : gV) (hp : p_X1_makeClaim_0 b   x1 x2 x3 v) (hQ : gqTIV Q (f_X1_makeClaim_0 b  x1 x2 x3 v)) : gG E m_X1_makeClaim d Q 3 18 (rS v) 0 [(0, .ref (gX E + b)), (1, .int x1), (2, .int x2), (3, .int x3)] [] := by
  refine g_aload_n 0 dX1_makeClaim_0 rfl ?_
  refine r_get (.ref (gX E + (b + 1))) f_X1_12_X1 rfl (kbz hb) (lt_b0 hb) dX1_makeClaim_1 (fun _ => rfl) ?_
  refine g_iload_n 1 dX1_makeClaim_4 rfl ?_
  obtain ⟨h1, hp⟩ := hp
  refine g_callU (rest := []) s_X1_95_X5 rfl (c_X6_placeOf_P (E := E) (d := d - 1) b hb (by omega) x1 v h1) (kb_1 hb) (lt_b hb (by decide)) rfl rfl (Nat.le_of_ble_eq_true rfl) (by omega) (by decide) (by decide) dX1_makeClaim_5 (adTI (fun sr2 h3 => ?_)) (axTI (fun e h3 => g_outs rfl rfl (qe (P := gqTIV Q) h3 hQ)))
  have hQ := ql (P := gqTIV Q) h3 hQ
  have hp := hp sr2 h3
  exact w_X1_makeClaim_8 b hb hd    x1 x2 x3 sr2 v hp hQ
def f_X1_makeClaim (b : Nat) (x1 : Int32) (x2 : Int32) (x3 : Int32) (v : gV) : (Int32 ⊕ String) × gV := f_X1_makeClaim_0 b x1 x2 x3 v
def p_X1_makeClaim (b : Nat) (x1 : Int32) (x2 : Int32) (x3 : Int32) (v : gV) : Prop := p_X1_makeClaim_0 b x1 x2 x3 v
theorem c_X1_makeClaim {E : gE} {d : Nat} (b : Nat) (hb : isBk b) (hd : 10 ≤ d) (x1 : Int32) (x2 : Int32) (x3 : Int32) (v : gV) (hp : p_X1_makeClaim b x1 x2 x3 v) : CT E m_X1_makeClaim d 3 18 [.ref (gX E + b), .int x1, .int x2, .int x3] (rS v) (Cq (gOi (f_X1_makeClaim b x1 x2 x3 v).1) (f_X1_makeClaim b x1 x2 x3 v).2) := CT.of ok_X1_makeClaim rfl (Nat.le_of_ble_eq_true rfl) (w_X1_makeClaim_0 b hb hd x1 x2 x3 v hp ⟨rfl, rfl⟩)
def f_X1_removePaidClaim_48 (b : Nat) (x3 : Int32) (v : gV) : (Int32 ⊕ String) × gV := (Sum.inl x3, v)
def p_X1_removePaidClaim_48 (b : Nat) (x3 : Int32) (v : gV) : Prop := True
set_option maxHeartbeats 4000000 in
set_option maxRecDepth 100000 in
theorem w_X1_removePaidClaim_48 {E : gE} {d : Nat} {Q : gO → gS → Prop} (b : Nat) (hb : isBk b) (hd : 8 ≤ d) (x3 : Int32) (v : gV) (hp : p_X1_removePaidClaim_48 b   x3 v) (hQ : gqTIV Q (f_X1_removePaidClaim_48 b  x3 v)) : gG E m_X1_removePaidClaim d Q 0 0 (rS v) 48 [(3, .int x3)] [] := by
  refine g_iload_n 0 dX1_removePaidClaim_48 rfl ?_
  exact g_iret rfl dX1_removePaidClaim_49 hQ
def f_X1_removePaidClaim_8 (b : Nat) (s0 : Int32) (v : gV) : (Int32 ⊕ String) × gV := if (f_X2_unpaidAt b s0 v) ≤ 0 then (f_X1_removePaidClaim_48 b  (v.1 (b + 14) s0.toNatClampNeg) (f_X2_remove b s0 v)) else ((Sum.inr "java/lang/IllegalStateException", v))
def p_X1_removePaidClaim_8 (b : Nat) (s0 : Int32) (v : gV) : Prop := (p_X2_unpaidAt b s0 v) ∧ ((((f_X2_unpaidAt b s0 v) ≤ 0) → ((vp_in s0 12) ∧ ((p_X2_remove b s0 v) ∧ (p_X1_removePaidClaim_48 b   (v.1 (b + 14) s0.toNatClampNeg) (f_X2_remove b s0 v))))) ∧ (¬ ((f_X2_unpaidAt b s0 v) ≤ 0) → (True)))
set_option maxHeartbeats 4000000 in
set_option maxRecDepth 100000 in
theorem w_X1_removePaidClaim_8 {E : gE} {d : Nat} {Q : gO → gS → Prop} (b : Nat) (hb : isBk b) (hd : 8 ≤ d) (s0 : Int32) (v : gV) (hp : p_X1_removePaidClaim_8 b   s0 v) (hQ : gqTIV Q (f_X1_removePaidClaim_8 b  s0 v)) : gG E m_X1_removePaidClaim d Q 1 6 (rS v) 8 [(0, .ref (gX E + b))] [.int s0] := by
  refine g_istore_n [(2, .int s0), (0, .ref (gX E + b))] dX1_removePaidClaim_8 rfl (by decide) rfl ?_
  refine g_aload_n 1 dX1_removePaidClaim_9 rfl ?_
  refine r_get (.ref (gX E + (b + 10))) f_X1_21_X1 rfl (kbz hb) (lt_b0 hb) dX1_removePaidClaim_10 (fun _ => rfl) ?_
  refine g_iload_n 0 dX1_removePaidClaim_13 rfl ?_
  obtain ⟨h4, hp⟩ := hp
  refine g_callV (rest := []) s_X1_193_X2 rfl (c_X2_unpaidAt (E := E) (d := d - 1) b hb (by omega) s0 v h4) (kb_10 hb) (lt_b hb (by decide)) rfl rfl (Nat.le_of_ble_eq_true rfl) (by omega) (by decide) (by decide) dX1_removePaidClaim_14 (adV ?_) axN
  refine g_if_le 30 dX1_removePaidClaim_17 (by decide) (fun h5 => ?_) (fun h5 => ?_)
  · have hQ := qp (P := gqTIV Q) h5 hQ
    have hp := hp.1 h5
    refine g_aload_n 1 dX1_removePaidClaim_30 rfl ?_
    refine r_get (.ref (gX E + (b + 10))) f_X1_21_X1 rfl (kbz hb) (lt_b0 hb) dX1_removePaidClaim_31 (fun _ => rfl) ?_
    refine r_get (.ref (gX E + (b + 14))) f_X1_212_X2 rfl (kb_10 hb) (lt_b hb (by decide)) dX1_removePaidClaim_34 (fun _ => rfl) ?_
    refine g_iload_n 0 dX1_removePaidClaim_37 rfl ?_
    obtain ⟨h6, hp⟩ := hp
    refine g_iald (kb_14 hb) (lt_b hb (by decide)) h6 dX1_removePaidClaim_38 ?_
    refine g_istore_n [(3, .int (v.1 (b + 14) s0.toNatClampNeg)), (2, .int s0), (0, .ref (gX E + b))] dX1_removePaidClaim_39 rfl (by decide) rfl ?_
    refine g_aload_n 2 dX1_removePaidClaim_40 rfl ?_
    refine r_get (.ref (gX E + (b + 10))) f_X1_21_X1 rfl (kbz hb) (lt_b0 hb) dX1_removePaidClaim_41 (fun _ => rfl) ?_
    refine g_iload_n 1 dX1_removePaidClaim_44 rfl ?_
    obtain ⟨h7, hp⟩ := hp
    refine g_callV (rest := []) s_X1_215_X2 rfl (c_X2_remove (E := E) (d := d - 1) b hb (by omega) s0 v h7) (kb_10 hb) (lt_b hb (by decide)) rfl rfl (Nat.le_of_ble_eq_true rfl) (by omega) (by decide) (by decide) dX1_removePaidClaim_45 (adN ?_) axN
    refine g_room (k' := 0) (n' := 0) (by decide) (by decide) ?_
    refine g_lv (lv' := [(3, .int (v.1 (b + 14) s0.toNatClampNeg))]) [0] rfl ?_
    exact w_X1_removePaidClaim_48 b hb hd    (v.1 (b + 14) s0.toNatClampNeg) (f_X2_remove b s0 v) hp hQ
  · have hQ := qn (P := gqTIV Q) h5 hQ
    have hp := hp.2 h5
    exact g_throwS rfl t_X1_108_210 rfl rfl rfl (by omega) (by decide) (by decide) (Nat.le_of_ble_eq_true rfl) dX1_removePaidClaim_20 dX1_removePaidClaim_23 dX1_removePaidClaim_24 dX1_removePaidClaim_26 dX1_removePaidClaim_29 hQ
def f_X1_removePaidClaim_0 (b : Nat) (x1 : Int32) (v : gV) : (Int32 ⊕ String) × gV := Sum.elim (fun (sr2 : Int32) => f_X1_removePaidClaim_8 b  sr2 v) (fun (e : String) => (Sum.inr e, v)) (f_X6_placeOf_C b x1 v)
def p_X1_removePaidClaim_0 (b : Nat) (x1 : Int32) (v : gV) : Prop := (p_X6_placeOf_C b x1 v) ∧ (∀ (sr2 : Int32), (f_X6_placeOf_C b x1 v) = Sum.inl sr2 → (p_X1_removePaidClaim_8 b   sr2 v))
set_option maxHeartbeats 4000000 in
set_option maxRecDepth 100000 in
theorem w_X1_removePaidClaim_0 {E : gE} {d : Nat} {Q : gO → gS → Prop} (b : Nat) (hb : isBk b) (hd : 8 ≤ d) (x1 : Int32) (v : gV) (hp : p_X1_removePaidClaim_0 b   x1 v) (hQ : gqTIV Q (f_X1_removePaidClaim_0 b  x1 v)) : gG E m_X1_removePaidClaim d Q 2 12 (rS v) 0 [(0, .ref (gX E + b)), (1, .int x1)] [] := by
  refine g_aload_n 0 dX1_removePaidClaim_0 rfl ?_
  refine r_get (.ref (gX E + (b + 10))) f_X1_21_X1 rfl (kbz hb) (lt_b0 hb) dX1_removePaidClaim_1 (fun _ => rfl) ?_
  refine g_iload_n 1 dX1_removePaidClaim_4 rfl ?_
  obtain ⟨h1, hp⟩ := hp
  refine g_callU (rest := []) s_X1_192_X2 rfl (c_X6_placeOf_C (E := E) (d := d - 1) b hb (by omega) x1 v h1) (kb_10 hb) (lt_b hb (by decide)) rfl rfl (Nat.le_of_ble_eq_true rfl) (by omega) (by decide) (by decide) dX1_removePaidClaim_5 (adTI (fun sr2 h3 => ?_)) (axTI (fun e h3 => g_outs rfl rfl (qe (P := gqTIV Q) h3 hQ)))
  have hQ := ql (P := gqTIV Q) h3 hQ
  have hp := hp sr2 h3
  refine g_lv (lv' := [(0, .ref (gX E + b))]) [0] rfl ?_
  exact w_X1_removePaidClaim_8 b hb hd    sr2 v hp hQ
def f_X1_removePaidClaim (b : Nat) (x1 : Int32) (v : gV) : (Int32 ⊕ String) × gV := f_X1_removePaidClaim_0 b x1 v
def p_X1_removePaidClaim (b : Nat) (x1 : Int32) (v : gV) : Prop := p_X1_removePaidClaim_0 b x1 v
theorem c_X1_removePaidClaim {E : gE} {d : Nat} (b : Nat) (hb : isBk b) (hd : 8 ≤ d) (x1 : Int32) (v : gV) (hp : p_X1_removePaidClaim b x1 v) : CT E m_X1_removePaidClaim d 2 12 [.ref (gX E + b), .int x1] (rS v) (Cq (gOi (f_X1_removePaidClaim b x1 v).1) (f_X1_removePaidClaim b x1 v).2) := CT.of ok_X1_removePaidClaim rfl (Nat.le_of_ble_eq_true rfl) (w_X1_removePaidClaim_0 b hb hd x1 v hp ⟨rfl, rfl⟩)
def f_X1_removeUnpaidClaim_93 (b : Nat) (x3 : Int32) (v : gV) : (Int32 ⊕ String) × gV := (Sum.inl x3, v)
def p_X1_removeUnpaidClaim_93 (b : Nat) (x3 : Int32) (v : gV) : Prop := True
set_option maxHeartbeats 4000000 in
set_option maxRecDepth 100000 in
theorem w_X1_removeUnpaidClaim_93 {E : gE} {d : Nat} {Q : gO → gS → Prop} (b : Nat) (hb : isBk b) (hd : 8 ≤ d) (x3 : Int32) (v : gV) (hp : p_X1_removeUnpaidClaim_93 b   x3 v) (hQ : gqTIV Q (f_X1_removeUnpaidClaim_93 b  x3 v)) : gG E m_X1_removeUnpaidClaim d Q 0 0 (rS v) 93 [(3, .int x3)] [] := by
  refine g_iload_n 0 dX1_removeUnpaidClaim_93 rfl ?_
  exact g_iret rfl dX1_removeUnpaidClaim_94 hQ
def f_X1_removeUnpaidClaim_85 (b : Nat) (x2 : Int32) (x3 : Int32) (v : gV) : (Int32 ⊕ String) × gV := f_X1_removeUnpaidClaim_93 b  x3 (f_X2_remove b x2 v)
def p_X1_removeUnpaidClaim_85 (b : Nat) (x2 : Int32) (x3 : Int32) (v : gV) : Prop := (p_X2_remove b x2 v) ∧ (p_X1_removeUnpaidClaim_93 b   x3 (f_X2_remove b x2 v))
set_option maxHeartbeats 4000000 in
set_option maxRecDepth 100000 in
theorem w_X1_removeUnpaidClaim_85 {E : gE} {d : Nat} {Q : gO → gS → Prop} (b : Nat) (hb : isBk b) (hd : 8 ≤ d) (x2 : Int32) (x3 : Int32) (v : gV) (hp : p_X1_removeUnpaidClaim_85 b   x2 x3 v) (hQ : gqTIV Q (f_X1_removeUnpaidClaim_85 b  x2 x3 v)) : gG E m_X1_removeUnpaidClaim d Q 0 0 (rS v) 85 [(0, .ref (gX E + b)), (2, .int x2), (3, .int x3)] [] := by
  refine g_aload_n 0 dX1_removeUnpaidClaim_85 rfl ?_
  refine r_get (.ref (gX E + (b + 10))) f_X1_21_X1 rfl (kbz hb) (lt_b0 hb) dX1_removeUnpaidClaim_86 (fun _ => rfl) ?_
  refine g_iload_n 1 dX1_removeUnpaidClaim_89 rfl ?_
  obtain ⟨h15, hp⟩ := hp
  refine g_callV (rest := []) s_X1_215_X2 rfl (c_X2_remove (E := E) (d := d - 1) b hb (by omega) x2 v h15) (kb_10 hb) (lt_b hb (by decide)) rfl rfl (Nat.le_of_ble_eq_true rfl) (by omega) (by decide) (by decide) dX1_removeUnpaidClaim_90 (adN ?_) axN
  refine g_lv (lv' := [(3, .int x3)]) [2] rfl ?_
  exact w_X1_removeUnpaidClaim_93 b hb hd    x3 (f_X2_remove b x2 v) hp hQ
def f_X1_removeUnpaidClaim_69 (b : Nat) (x2 : Int32) (x3 : Int32) (v : gV) : (Int32 ⊕ String) × gV := f_X1_removeUnpaidClaim_85 b  x2 x3 (f_X8_giveBack b (b + 17 + 1 + (x2).toNatClampNeg) v)
def p_X1_removeUnpaidClaim_69 (b : Nat) (x2 : Int32) (x3 : Int32) (v : gV) : Prop := (vp_in x2 12) ∧ ((p_X8_giveBack b (b + 17 + 1 + (x2).toNatClampNeg) v) ∧ (p_X1_removeUnpaidClaim_85 b   x2 x3 (f_X8_giveBack b (b + 17 + 1 + (x2).toNatClampNeg) v)))
set_option maxHeartbeats 4000000 in
set_option maxRecDepth 100000 in
theorem w_X1_removeUnpaidClaim_69 {E : gE} {d : Nat} {Q : gO → gS → Prop} (b : Nat) (hb : isBk b) (hd : 8 ≤ d) (x2 : Int32) (x3 : Int32) (v : gV) (hp : p_X1_removeUnpaidClaim_69 b   x2 x3 v) (hQ : gqTIV Q (f_X1_removeUnpaidClaim_69 b  x2 x3 v)) : gG E m_X1_removeUnpaidClaim d Q 0 0 (rS v) 69 [(0, .ref (gX E + b)), (2, .int x2), (3, .int x3)] [] := by
  refine g_aload_n 0 dX1_removeUnpaidClaim_69 rfl ?_
  refine r_get (.ref (gX E + (b + 30))) f_X1_28_X1 rfl (kbz hb) (lt_b0 hb) dX1_removeUnpaidClaim_70 (fun _ => rfl) ?_
  refine g_aload_n 0 dX1_removeUnpaidClaim_73 rfl ?_
  refine r_get (.ref (gX E + (b + 10))) f_X1_21_X1 rfl (kbz hb) (lt_b0 hb) dX1_removeUnpaidClaim_74 (fun _ => rfl) ?_
  refine r_get (.ref (gX E + (b + 17))) f_X1_180_X2 rfl (kb_10 hb) (lt_b hb (by decide)) dX1_removeUnpaidClaim_77 (fun _ => rfl) ?_
  refine g_iload_n 1 dX1_removeUnpaidClaim_80 rfl ?_
  obtain ⟨h13, hp⟩ := hp
  refine r_aald (kb_17 hb) (lt_b hb (by decide)) h13 (by decide) dX1_removeUnpaidClaim_81 ?_
  obtain ⟨h14, hp⟩ := hp
  refine g_callV (rest := []) s_X1_218_X8 rfl (c_X8_giveBack (E := E) (d := d - 1) b (b + 17 + 1 + (x2).toNatClampNeg) hb (kg_17 hb h13) (lg_17 hb h13) (by omega)  v h14) (kb_30 hb) (lt_b hb (by decide)) rfl rfl (Nat.le_of_ble_eq_true rfl) (by omega) (by decide) (by decide) dX1_removeUnpaidClaim_82 (adN ?_) axN
  exact w_X1_removeUnpaidClaim_85 b hb hd    x2 x3 (f_X8_giveBack b (b + 17 + 1 + (x2).toNatClampNeg) v) hp hQ
def f_X1_removeUnpaidClaim_64 (b : Nat) (x2 : Int32) (x3 : Int32) (s0 : Int32) (v : gV) : (Int32 ⊕ String) × gV := f_X1_removeUnpaidClaim_69 b  x2 x3 (vM v (b + 8) s0.toNatClampNeg ((v.1 (b + 8) s0.toNatClampNeg) - x3))
def p_X1_removeUnpaidClaim_64 (b : Nat) (x2 : Int32) (x3 : Int32) (s0 : Int32) (v : gV) : Prop := (vp_in s0 8) ∧ ((vp_in s0 8) ∧ (p_X1_removeUnpaidClaim_69 b   x2 x3 (vM v (b + 8) s0.toNatClampNeg ((v.1 (b + 8) s0.toNatClampNeg) - x3))))
set_option maxHeartbeats 4000000 in
set_option maxRecDepth 100000 in
theorem w_X1_removeUnpaidClaim_64 {E : gE} {d : Nat} {Q : gO → gS → Prop} (b : Nat) (hb : isBk b) (hd : 8 ≤ d) (x2 : Int32) (x3 : Int32) (s0 : Int32) (v : gV) (hp : p_X1_removeUnpaidClaim_64 b   x2 x3 s0 v) (hQ : gqTIV Q (f_X1_removeUnpaidClaim_64 b  x2 x3 s0 v)) : gG E m_X1_removeUnpaidClaim d Q 0 0 (rS v) 64 [(0, .ref (gX E + b)), (2, .int x2), (3, .int x3)] [.int s0, .ref (gX E + (b + 8))] := by
  refine g_dup2 dX1_removeUnpaidClaim_64 rfl rfl ?_
  obtain ⟨h11, hp⟩ := hp
  refine g_iald (kb_8 hb) (lt_b hb (by decide)) h11 dX1_removeUnpaidClaim_65 ?_
  refine g_iload_n 2 dX1_removeUnpaidClaim_66 rfl ?_
  refine g_isub dX1_removeUnpaidClaim_67 ?_
  obtain ⟨h12, hp⟩ := hp
  refine r_iast (kb_8 hb) (lt_b hb (by decide)) h12 dX1_removeUnpaidClaim_68 ?_
  exact w_X1_removeUnpaidClaim_69 b hb hd    x2 x3 (vM v (b + 8) s0.toNatClampNeg ((v.1 (b + 8) s0.toNatClampNeg) - x3)) hp hQ
def f_X1_removeUnpaidClaim_8 (b : Nat) (s0 : Int32) (v : gV) : (Int32 ⊕ String) × gV := if (v.1 (b + 15) s0.toNatClampNeg) ≤ 0 then (Sum.elim (fun (sr9 : Int32) => f_X1_removeUnpaidClaim_64 b  s0 (v.1 (b + 14) s0.toNatClampNeg) sr9 v) (fun (e : String) => (Sum.inr e, v)) (f_X6_placeOf_P b (v.1 (b + 12) s0.toNatClampNeg) v)) else ((Sum.inr "java/lang/IllegalStateException", v))
def p_X1_removeUnpaidClaim_8 (b : Nat) (s0 : Int32) (v : gV) : Prop := (vp_in s0 12) ∧ ((((v.1 (b + 15) s0.toNatClampNeg) ≤ 0) → ((vp_in s0 12) ∧ ((vp_in s0 12) ∧ ((p_X6_placeOf_P b (v.1 (b + 12) s0.toNatClampNeg) v) ∧ (∀ (sr9 : Int32), (f_X6_placeOf_P b (v.1 (b + 12) s0.toNatClampNeg) v) = Sum.inl sr9 → (p_X1_removeUnpaidClaim_64 b   s0 (v.1 (b + 14) s0.toNatClampNeg) sr9 v)))))) ∧ (¬ ((v.1 (b + 15) s0.toNatClampNeg) ≤ 0) → (True)))
set_option maxHeartbeats 4000000 in
set_option maxRecDepth 100000 in
theorem w_X1_removeUnpaidClaim_8 {E : gE} {d : Nat} {Q : gO → gS → Prop} (b : Nat) (hb : isBk b) (hd : 8 ≤ d) (s0 : Int32) (v : gV) (hp : p_X1_removeUnpaidClaim_8 b   s0 v) (hQ : gqTIV Q (f_X1_removeUnpaidClaim_8 b  s0 v)) : gG E m_X1_removeUnpaidClaim d Q 1 6 (rS v) 8 [(0, .ref (gX E + b))] [.int s0] := by
  refine g_istore_n [(2, .int s0), (0, .ref (gX E + b))] dX1_removeUnpaidClaim_8 rfl (by decide) rfl ?_
  refine g_aload_n 1 dX1_removeUnpaidClaim_9 rfl ?_
  refine r_get (.ref (gX E + (b + 10))) f_X1_21_X1 rfl (kbz hb) (lt_b0 hb) dX1_removeUnpaidClaim_10 (fun _ => rfl) ?_
  refine r_get (.ref (gX E + (b + 15))) f_X1_201_X2 rfl (kb_10 hb) (lt_b hb (by decide)) dX1_removeUnpaidClaim_13 (fun _ => rfl) ?_
  refine g_iload_n 0 dX1_removeUnpaidClaim_16 rfl ?_
  obtain ⟨h4, hp⟩ := hp
  refine g_iald (kb_15 hb) (lt_b hb (by decide)) h4 dX1_removeUnpaidClaim_17 ?_
  refine g_if_le 31 dX1_removeUnpaidClaim_18 (by decide) (fun h5 => ?_) (fun h5 => ?_)
  · have hQ := qp (P := gqTIV Q) h5 hQ
    have hp := hp.1 h5
    refine g_aload_n 1 dX1_removeUnpaidClaim_31 rfl ?_
    refine r_get (.ref (gX E + (b + 10))) f_X1_21_X1 rfl (kbz hb) (lt_b0 hb) dX1_removeUnpaidClaim_32 (fun _ => rfl) ?_
    refine r_get (.ref (gX E + (b + 14))) f_X1_212_X2 rfl (kb_10 hb) (lt_b hb (by decide)) dX1_removeUnpaidClaim_35 (fun _ => rfl) ?_
    refine g_iload_n 0 dX1_removeUnpaidClaim_38 rfl ?_
    obtain ⟨h6, hp⟩ := hp
    refine g_iald (kb_14 hb) (lt_b hb (by decide)) h6 dX1_removeUnpaidClaim_39 ?_
    refine g_istore_n [(3, .int (v.1 (b + 14) s0.toNatClampNeg)), (2, .int s0), (0, .ref (gX E + b))] dX1_removeUnpaidClaim_40 rfl (by decide) rfl ?_
    refine g_aload_n 2 dX1_removeUnpaidClaim_41 rfl ?_
    refine r_get (.ref (gX E + (b + 1))) f_X1_12_X1 rfl (kbz hb) (lt_b0 hb) dX1_removeUnpaidClaim_42 (fun _ => rfl) ?_
    refine r_get (.ref (gX E + (b + 8))) f_X1_188_X5 rfl (kb_1 hb) (lt_b hb (by decide)) dX1_removeUnpaidClaim_45 (fun _ => rfl) ?_
    refine g_aload_n 2 dX1_removeUnpaidClaim_48 rfl ?_
    refine r_get (.ref (gX E + (b + 1))) f_X1_12_X1 rfl (kbz hb) (lt_b0 hb) dX1_removeUnpaidClaim_49 (fun _ => rfl) ?_
    refine g_aload_n 2 dX1_removeUnpaidClaim_52 rfl ?_
    refine r_get (.ref (gX E + (b + 10))) f_X1_21_X1 rfl (kbz hb) (lt_b0 hb) dX1_removeUnpaidClaim_53 (fun _ => rfl) ?_
    refine r_get (.ref (gX E + (b + 12))) f_X1_99_X2 rfl (kb_10 hb) (lt_b hb (by decide)) dX1_removeUnpaidClaim_56 (fun _ => rfl) ?_
    refine g_iload_n 1 dX1_removeUnpaidClaim_59 rfl ?_
    obtain ⟨h7, hp⟩ := hp
    refine g_iald (kb_12 hb) (lt_b hb (by decide)) h7 dX1_removeUnpaidClaim_60 ?_
    obtain ⟨h8, hp⟩ := hp
    refine g_callU (rest := [.ref (gX E + (b + 8))]) s_X1_95_X5 rfl (c_X6_placeOf_P (E := E) (d := d - 1) b hb (by omega) (v.1 (b + 12) s0.toNatClampNeg) v h8) (kb_1 hb) (lt_b hb (by decide)) rfl rfl (Nat.le_of_ble_eq_true rfl) (by omega) (by decide) (by decide) dX1_removeUnpaidClaim_61 (adTI (fun sr9 h10 => ?_)) (axTI (fun e h10 => g_outs rfl rfl (qe (P := gqTIV Q) h10 hQ)))
    have hQ := ql (P := gqTIV Q) h10 hQ
    have hp := hp sr9 h10
    refine g_lv (lv' := [(0, .ref (gX E + b)), (2, .int s0), (3, .int (v.1 (b + 14) s0.toNatClampNeg))]) [2, 1, 0] rfl ?_
    exact w_X1_removeUnpaidClaim_64 b hb hd    s0 (v.1 (b + 14) s0.toNatClampNeg) sr9 v hp hQ
  · have hQ := qn (P := gqTIV Q) h5 hQ
    have hp := hp.2 h5
    exact g_throwS rfl t_X1_108_216 rfl rfl rfl (by omega) (by decide) (by decide) (Nat.le_of_ble_eq_true rfl) dX1_removeUnpaidClaim_21 dX1_removeUnpaidClaim_24 dX1_removeUnpaidClaim_25 dX1_removeUnpaidClaim_27 dX1_removeUnpaidClaim_30 hQ
def f_X1_removeUnpaidClaim_0 (b : Nat) (x1 : Int32) (v : gV) : (Int32 ⊕ String) × gV := Sum.elim (fun (sr2 : Int32) => f_X1_removeUnpaidClaim_8 b  sr2 v) (fun (e : String) => (Sum.inr e, v)) (f_X6_placeOf_C b x1 v)
def p_X1_removeUnpaidClaim_0 (b : Nat) (x1 : Int32) (v : gV) : Prop := (p_X6_placeOf_C b x1 v) ∧ (∀ (sr2 : Int32), (f_X6_placeOf_C b x1 v) = Sum.inl sr2 → (p_X1_removeUnpaidClaim_8 b   sr2 v))
set_option maxHeartbeats 4000000 in
set_option maxRecDepth 100000 in
theorem w_X1_removeUnpaidClaim_0 {E : gE} {d : Nat} {Q : gO → gS → Prop} (b : Nat) (hb : isBk b) (hd : 8 ≤ d) (x1 : Int32) (v : gV) (hp : p_X1_removeUnpaidClaim_0 b   x1 v) (hQ : gqTIV Q (f_X1_removeUnpaidClaim_0 b  x1 v)) : gG E m_X1_removeUnpaidClaim d Q 2 12 (rS v) 0 [(0, .ref (gX E + b)), (1, .int x1)] [] := by
  refine g_aload_n 0 dX1_removeUnpaidClaim_0 rfl ?_
  refine r_get (.ref (gX E + (b + 10))) f_X1_21_X1 rfl (kbz hb) (lt_b0 hb) dX1_removeUnpaidClaim_1 (fun _ => rfl) ?_
  refine g_iload_n 1 dX1_removeUnpaidClaim_4 rfl ?_
  obtain ⟨h1, hp⟩ := hp
  refine g_callU (rest := []) s_X1_192_X2 rfl (c_X6_placeOf_C (E := E) (d := d - 1) b hb (by omega) x1 v h1) (kb_10 hb) (lt_b hb (by decide)) rfl rfl (Nat.le_of_ble_eq_true rfl) (by omega) (by decide) (by decide) dX1_removeUnpaidClaim_5 (adTI (fun sr2 h3 => ?_)) (axTI (fun e h3 => g_outs rfl rfl (qe (P := gqTIV Q) h3 hQ)))
  have hQ := ql (P := gqTIV Q) h3 hQ
  have hp := hp sr2 h3
  refine g_lv (lv' := [(0, .ref (gX E + b))]) [0] rfl ?_
  exact w_X1_removeUnpaidClaim_8 b hb hd    sr2 v hp hQ
def f_X1_removeUnpaidClaim (b : Nat) (x1 : Int32) (v : gV) : (Int32 ⊕ String) × gV := f_X1_removeUnpaidClaim_0 b x1 v
def p_X1_removeUnpaidClaim (b : Nat) (x1 : Int32) (v : gV) : Prop := p_X1_removeUnpaidClaim_0 b x1 v
theorem c_X1_removeUnpaidClaim {E : gE} {d : Nat} (b : Nat) (hb : isBk b) (hd : 8 ≤ d) (x1 : Int32) (v : gV) (hp : p_X1_removeUnpaidClaim b x1 v) : CT E m_X1_removeUnpaidClaim d 2 12 [.ref (gX E + b), .int x1] (rS v) (Cq (gOi (f_X1_removeUnpaidClaim b x1 v).1) (f_X1_removeUnpaidClaim b x1 v).2) := CT.of ok_X1_removeUnpaidClaim rfl (Nat.le_of_ble_eq_true rfl) (w_X1_removeUnpaidClaim_0 b hb hd x1 v hp ⟨rfl, rfl⟩)
def f_X1_layersAgree_24 (b : Nat) (K2 : Int32 → gV → Int32 × gV)  (x1 : Int32) (s0 : Int32) (s1 : Int32) (v : gV) : Int32 × gV := if s1 = s0 then (K2 (x1 + 1) v) else (((0 : Int32), v))
def p_X1_layersAgree_24 (b : Nat) (K2 : Int32 → gV → Int32 × gV)  (PK2 : Int32 → gV → Prop)  (x1 : Int32) (s0 : Int32) (s1 : Int32) (v : gV) : Prop := ((s1 = s0) → (PK2 (x1 + 1) v)) ∧ (¬ (s1 = s0) → (True))
set_option maxHeartbeats 4000000 in
set_option maxRecDepth 100000 in
theorem w_X1_layersAgree_24 {E : gE} {d : Nat} {Q : gO → gS → Prop} (b : Nat) (hb : isBk b) (hd : 4 ≤ d) (K2 : Int32 → gV → Int32 × gV)  (PK2 : Int32 → gV → Prop)  (hK2 : ∀ (x1 : Int32) (v : gV), PK2 x1 v → gqIV Q (K2 x1 v) → gG E m_X1_layersAgree d Q 0 0 (rS v) 2 [(0, .ref (gX E + b)), (1, .int x1)] [])  (x1 : Int32) (s0 : Int32) (s1 : Int32) (v : gV) (hp : p_X1_layersAgree_24 b K2 PK2 x1 s0 s1 v) (hQ : gqIV Q (f_X1_layersAgree_24 b K2 x1 s0 s1 v)) : gG E m_X1_layersAgree d Q 0 0 (rS v) 24 [(0, .ref (gX E + b)), (1, .int x1)] [.int s0, .int s1] := by
  refine g_icmp_eq 29 dX1_layersAgree_24 (by decide) (fun h4 => ?_) (fun h4 => ?_)
  · have hQ := qp (P := gqIV Q) h4 hQ
    have hp := hp.1 h4
    refine g_iinc 1 (x1 + 1) [(1, .int (x1 + 1)), (0, .ref (gX E + b))] dX1_layersAgree_29 rfl rfl (by decide) rfl ?_
    refine g_goto 2 dX1_layersAgree_32 (by decide) ?_
    refine g_lv (lv' := [(0, .ref (gX E + b)), (1, .int (x1 + 1))]) [1, 0] rfl ?_
    exact hK2 (x1 + 1) v hp hQ
  · have hQ := qn (P := gqIV Q) h4 hQ
    have hp := hp.2 h4
    refine g_iconst dX1_layersAgree_27 (0 : Int32) (by decide) ?_
    exact g_zret rfl rfl dX1_layersAgree_28 hQ
def f_X1_layersAgree_16 (b : Nat) (K2 : Int32 → gV → Int32 × gV)  (x1 : Int32) (s0 : Int32) (v : gV) : Int32 × gV := f_X1_layersAgree_24 b K2 x1 ((f_X8_countByCoins b x1 v).1) s0 (f_X8_countByCoins b x1 v).2
def p_X1_layersAgree_16 (b : Nat) (K2 : Int32 → gV → Int32 × gV)  (PK2 : Int32 → gV → Prop)  (x1 : Int32) (s0 : Int32) (v : gV) : Prop := (p_X8_countByCoins b x1 v) ∧ (p_X1_layersAgree_24 b K2 PK2 x1 ((f_X8_countByCoins b x1 v).1) s0 (f_X8_countByCoins b x1 v).2)
set_option maxHeartbeats 4000000 in
set_option maxRecDepth 100000 in
theorem w_X1_layersAgree_16 {E : gE} {d : Nat} {Q : gO → gS → Prop} (b : Nat) (hb : isBk b) (hd : 4 ≤ d) (K2 : Int32 → gV → Int32 × gV)  (PK2 : Int32 → gV → Prop)  (hK2 : ∀ (x1 : Int32) (v : gV), PK2 x1 v → gqIV Q (K2 x1 v) → gG E m_X1_layersAgree d Q 0 0 (rS v) 2 [(0, .ref (gX E + b)), (1, .int x1)] [])  (x1 : Int32) (s0 : Int32) (v : gV) (hp : p_X1_layersAgree_16 b K2 PK2 x1 s0 v) (hQ : gqIV Q (f_X1_layersAgree_16 b K2 x1 s0 v)) : gG E m_X1_layersAgree d Q 0 0 (rS v) 16 [(0, .ref (gX E + b)), (1, .int x1)] [.int s0] := by
  refine g_aload_n 0 dX1_layersAgree_16 rfl ?_
  refine r_get (.ref (gX E + (b + 30))) f_X1_28_X1 rfl (kbz hb) (lt_b0 hb) dX1_layersAgree_17 (fun _ => rfl) ?_
  refine g_iload_n 1 dX1_layersAgree_20 rfl ?_
  obtain ⟨h3, hp⟩ := hp
  refine g_callV (rest := [.int s0]) s_X1_228_X8 rfl (c_X8_countByCoins (E := E) (d := d - 1) b hb (by omega) x1 v h3) (kb_30 hb) (lt_b hb (by decide)) rfl rfl (Nat.le_of_ble_eq_true rfl) (by omega) (by decide) (by decide) dX1_layersAgree_21 (adV ?_) axN
  exact w_X1_layersAgree_24 b hb hd K2 PK2 hK2 x1 ((f_X8_countByCoins b x1 v).1) s0 (f_X8_countByCoins b x1 v).2 hp hQ
def f_X1_layersAgree_2 (b : Nat) : Nat → Int32 → gV → Int32 × gV
  | 0, _, v => (0, v)
  | n + 1, x1, v => if (30 : Int32) < x1 then (((1 : Int32), v)) else (f_X1_layersAgree_16 b (fun x1 v => f_X1_layersAgree_2 b  n x1 v) x1 ((f_X8_countByRuns b x1 v).1) (f_X8_countByRuns b x1 v).2)
def p_X1_layersAgree_2 (b : Nat) : Nat → Int32 → gV → Prop
  | 0, _, _ => False
  | n + 1, x1, v => (((30 : Int32) < x1) → (True)) ∧ (¬ ((30 : Int32) < x1) → ((p_X8_countByRuns b x1 v) ∧ (p_X1_layersAgree_16 b (fun x1 v => f_X1_layersAgree_2 b  n x1 v) (fun x1 v => p_X1_layersAgree_2 b   n x1 v) x1 ((f_X8_countByRuns b x1 v).1) (f_X8_countByRuns b x1 v).2)))
set_option maxHeartbeats 4000000 in
set_option maxRecDepth 100000 in
theorem w_X1_layersAgree_2 {E : gE} {d : Nat} {Q : gO → gS → Prop} (b : Nat) (hb : isBk b) (hd : 4 ≤ d) : ∀ (n : Nat) (x1 : Int32) (v : gV), p_X1_layersAgree_2 b   n x1 v → gqIV Q (f_X1_layersAgree_2 b  n x1 v) → gG E m_X1_layersAgree d Q 0 0 (rS v) 2 [(0, .ref (gX E + b)), (1, .int x1)] [] := by
  intro n
  induction n with
  | zero => intro x1 v hp; exact hp.elim
  | succ n ih =>
    intro x1 v hp hQ
    refine g_iload_n 1 dX1_layersAgree_2 rfl ?_
    refine g_bipush dX1_layersAgree_3 (30 : Int32) (by decide) ?_
    refine g_icmp_gt 35 dX1_layersAgree_5 (by decide) (fun h1 => ?_) (fun h1 => ?_)
    · have hQ := qp (P := gqIV Q) h1 hQ
      have hp := hp.1 h1
      refine g_iconst dX1_layersAgree_35 (1 : Int32) (by decide) ?_
      exact g_zret rfl rfl dX1_layersAgree_36 hQ
    · have hQ := qn (P := gqIV Q) h1 hQ
      have hp := hp.2 h1
      refine g_aload_n 0 dX1_layersAgree_8 rfl ?_
      refine r_get (.ref (gX E + (b + 30))) f_X1_28_X1 rfl (kbz hb) (lt_b0 hb) dX1_layersAgree_9 (fun _ => rfl) ?_
      refine g_iload_n 1 dX1_layersAgree_12 rfl ?_
      obtain ⟨h2, hp⟩ := hp
      refine g_callV (rest := []) s_X1_225_X8 rfl (c_X8_countByRuns (E := E) (d := d - 1) b hb (by omega) x1 v h2) (kb_30 hb) (lt_b hb (by decide)) rfl rfl (Nat.le_of_ble_eq_true rfl) (by omega) (by decide) (by decide) dX1_layersAgree_13 (adV ?_) axN
      exact w_X1_layersAgree_16 b hb hd (fun x1 v => f_X1_layersAgree_2 b  n x1 v) (fun x1 v => p_X1_layersAgree_2 b   n x1 v) ih x1 ((f_X8_countByRuns b x1 v).1) (f_X8_countByRuns b x1 v).2 hp hQ
def f_X1_layersAgree_0 (b : Nat)  (v : gV) : Int32 × gV := f_X1_layersAgree_2 b  5000 (1 : Int32) v
def p_X1_layersAgree_0 (b : Nat)  (v : gV) : Prop := p_X1_layersAgree_2 b   5000 (1 : Int32) v
set_option maxHeartbeats 4000000 in
set_option maxRecDepth 100000 in
theorem w_X1_layersAgree_0 {E : gE} {d : Nat} {Q : gO → gS → Prop} (b : Nat) (hb : isBk b) (hd : 4 ≤ d)  (v : gV) (hp : p_X1_layersAgree_0 b    v) (hQ : gqIV Q (f_X1_layersAgree_0 b   v)) : gG E m_X1_layersAgree d Q 0 0 (rS v) 0 [(0, .ref (gX E + b))] [] := by
  refine g_iconst dX1_layersAgree_0 (1 : Int32) (by decide) ?_
  refine g_istore_n [(1, .int ((1 : Int32))), (0, .ref (gX E + b))] dX1_layersAgree_1 rfl (by decide) rfl ?_
  refine g_lv (lv' := [(0, .ref (gX E + b)), (1, .int ((1 : Int32)))]) [1, 0] rfl ?_
  exact w_X1_layersAgree_2 b hb hd    5000 (1 : Int32) v hp hQ
def f_X1_layersAgree (b : Nat)  (v : gV) : Int32 × gV := f_X1_layersAgree_0 b  v
def p_X1_layersAgree (b : Nat)  (v : gV) : Prop := p_X1_layersAgree_0 b  v
theorem c_X1_layersAgree {E : gE} {d : Nat} (b : Nat) (hb : isBk b) (hd : 4 ≤ d)  (v : gV) (hp : p_X1_layersAgree b  v) : CT E m_X1_layersAgree d 0 0 [.ref (gX E + b)] (rS v) (Cq (.inl (some (.int ((f_X1_layersAgree b  v).1)))) (f_X1_layersAgree b  v).2) := CT.of ok_X1_layersAgree rfl (Nat.le_of_ble_eq_true rfl) (w_X1_layersAgree_0 b hb hd  v hp ⟨rfl, rfl⟩)
def f_X1_coversAgree_28 (b : Nat) (s0 : Int32) (v : gV) : Int32 × gV := (s0, v)
def p_X1_coversAgree_28 (b : Nat) (s0 : Int32) (v : gV) : Prop := (s0 = 0 ∨ s0 = 1) ∧ (True)
set_option maxHeartbeats 4000000 in
set_option maxRecDepth 100000 in
theorem w_X1_coversAgree_28 {E : gE} {d : Nat} {Q : gO → gS → Prop} (b : Nat) (hb : isBk b) (hd : 4 ≤ d) (s0 : Int32) (v : gV) (hp : p_X1_coversAgree_28 b   s0 v) (hQ : gqIV Q (f_X1_coversAgree_28 b  s0 v)) : gG E m_X1_coversAgree d Q 0 0 (rS v) 28 [] [.int s0] := by
  obtain ⟨h4, hp⟩ := hp
  exact g_zret rfl (nz h4) dX1_coversAgree_28 hQ
def f_X1_coversAgree_10 (b : Nat) (s0 : Int32) (v : gV) : Int32 × gV := if s0 = (f_X4_cheapestBySets b (0 : Int32) (9 : Int32) v) then (f_X1_coversAgree_28 b  (1 : Int32) v) else (f_X1_coversAgree_28 b  (0 : Int32) v)
def p_X1_coversAgree_10 (b : Nat) (s0 : Int32) (v : gV) : Prop := (p_X4_cheapestBySets b (0 : Int32) (9 : Int32) v) ∧ (((s0 = (f_X4_cheapestBySets b (0 : Int32) (9 : Int32) v)) → (p_X1_coversAgree_28 b   (1 : Int32) v)) ∧ (¬ (s0 = (f_X4_cheapestBySets b (0 : Int32) (9 : Int32) v)) → (p_X1_coversAgree_28 b   (0 : Int32) v)))
set_option maxHeartbeats 4000000 in
set_option maxRecDepth 100000 in
theorem w_X1_coversAgree_10 {E : gE} {d : Nat} {Q : gO → gS → Prop} (b : Nat) (hb : isBk b) (hd : 4 ≤ d) (s0 : Int32) (v : gV) (hp : p_X1_coversAgree_10 b   s0 v) (hQ : gqIV Q (f_X1_coversAgree_10 b  s0 v)) : gG E m_X1_coversAgree d Q 0 0 (rS v) 10 [(0, .ref (gX E + b))] [.int s0] := by
  refine g_aload_n 0 dX1_coversAgree_10 rfl ?_
  refine r_get (.ref (gX E + (b + 45))) f_X1_42_X1 rfl (kbz hb) (lt_b0 hb) dX1_coversAgree_11 (fun _ => rfl) ?_
  refine g_iconst dX1_coversAgree_14 (0 : Int32) (by decide) ?_
  refine g_bipush dX1_coversAgree_15 (9 : Int32) (by decide) ?_
  obtain ⟨h2, hp⟩ := hp
  refine g_callV (rest := [.int s0]) s_X1_254_X4 rfl (c_X4_cheapestBySets (E := E) (d := d - 1) b hb (by omega) (0 : Int32) (9 : Int32) v h2) (kb_45 hb) (lt_b hb (by decide)) rfl rfl (Nat.le_of_ble_eq_true rfl) (by omega) (by decide) (by decide) dX1_coversAgree_17 (adV ?_) axN
  refine g_icmp_ne 27 dX1_coversAgree_20 (by decide) (fun h3 => ?_) (fun h3 => ?_)
  · have hQ := qn (P := gqIV Q) h3 hQ
    have hp := hp.2 h3
    refine g_iconst dX1_coversAgree_27 (0 : Int32) (by decide) ?_
    refine g_lv (lv' := []) [] rfl ?_
    exact w_X1_coversAgree_28 b hb hd    (0 : Int32) v hp hQ
  · have hQ := qp (P := gqIV Q) h3 hQ
    have hp := hp.1 h3
    refine g_iconst dX1_coversAgree_23 (1 : Int32) (by decide) ?_
    refine g_goto 28 dX1_coversAgree_24 (by decide) ?_
    refine g_lv (lv' := []) [] rfl ?_
    exact w_X1_coversAgree_28 b hb hd    (1 : Int32) v hp hQ
def f_X1_coversAgree_0 (b : Nat)  (v : gV) : Int32 × gV := f_X1_coversAgree_10 b  ((f_X4_cheapestByDays b (0 : Int32) (9 : Int32) v).1) (f_X4_cheapestByDays b (0 : Int32) (9 : Int32) v).2
def p_X1_coversAgree_0 (b : Nat)  (v : gV) : Prop := (p_X4_cheapestByDays b (0 : Int32) (9 : Int32) v) ∧ (p_X1_coversAgree_10 b   ((f_X4_cheapestByDays b (0 : Int32) (9 : Int32) v).1) (f_X4_cheapestByDays b (0 : Int32) (9 : Int32) v).2)
set_option maxHeartbeats 4000000 in
set_option maxRecDepth 100000 in
theorem w_X1_coversAgree_0 {E : gE} {d : Nat} {Q : gO → gS → Prop} (b : Nat) (hb : isBk b) (hd : 4 ≤ d)  (v : gV) (hp : p_X1_coversAgree_0 b    v) (hQ : gqIV Q (f_X1_coversAgree_0 b   v)) : gG E m_X1_coversAgree d Q 0 0 (rS v) 0 [(0, .ref (gX E + b))] [] := by
  refine g_aload_n 0 dX1_coversAgree_0 rfl ?_
  refine r_get (.ref (gX E + (b + 45))) f_X1_42_X1 rfl (kbz hb) (lt_b0 hb) dX1_coversAgree_1 (fun _ => rfl) ?_
  refine g_iconst dX1_coversAgree_4 (0 : Int32) (by decide) ?_
  refine g_bipush dX1_coversAgree_5 (9 : Int32) (by decide) ?_
  obtain ⟨h1, hp⟩ := hp
  refine g_callV (rest := []) s_X1_251_X4 rfl (c_X4_cheapestByDays (E := E) (d := d - 1) b hb (by omega) (0 : Int32) (9 : Int32) v h1) (kb_45 hb) (lt_b hb (by decide)) rfl rfl (Nat.le_of_ble_eq_true rfl) (by omega) (by decide) (by decide) dX1_coversAgree_7 (adV ?_) axN
  exact w_X1_coversAgree_10 b hb hd    ((f_X4_cheapestByDays b (0 : Int32) (9 : Int32) v).1) (f_X4_cheapestByDays b (0 : Int32) (9 : Int32) v).2 hp hQ
def f_X1_coversAgree (b : Nat)  (v : gV) : Int32 × gV := f_X1_coversAgree_0 b  v
def p_X1_coversAgree (b : Nat)  (v : gV) : Prop := p_X1_coversAgree_0 b  v
theorem c_X1_coversAgree {E : gE} {d : Nat} (b : Nat) (hb : isBk b) (hd : 4 ≤ d)  (v : gV) (hp : p_X1_coversAgree b  v) : CT E m_X1_coversAgree d 0 0 [.ref (gX E + b)] (rS v) (Cq (.inl (some (.int ((f_X1_coversAgree b  v).1)))) (f_X1_coversAgree b  v).2) := CT.of ok_X1_coversAgree rfl (Nat.le_of_ble_eq_true rfl) (w_X1_coversAgree_0 b hb hd  v hp ⟨rfl, rfl⟩)
def f_X9_projectByDelays_15 (b : Nat) : Nat → Int32 → Int64 → Int32 → gV → Int32
  | 0, _, _, _, v => 0
  | n + 1, x2, x3, x5, v => if (5 : Int32) ≤ x5 then x3.toInt32 else (f_X9_projectByDelays_15 b  n x2 (f_X9_timesFactor b x3 x5 x2 v) (x5 + 1) v)
def p_X9_projectByDelays_15 (b : Nat) : Nat → Int32 → Int64 → Int32 → gV → Prop
  | 0, _, _, _, _ => False
  | n + 1, x2, x3, x5, v => (((5 : Int32) ≤ x5) → (True)) ∧ (¬ ((5 : Int32) ≤ x5) → ((p_X9_timesFactor b x3 x5 x2 v) ∧ (p_X9_projectByDelays_15 b   n x2 (f_X9_timesFactor b x3 x5 x2 v) (x5 + 1) v)))
set_option maxHeartbeats 4000000 in
set_option maxRecDepth 100000 in
theorem w_X9_projectByDelays_15 {E : gE} {d : Nat} {Q : gO → gS → Prop} (b : Nat) (hb : isBk b) (hd : 3 ≤ d) : ∀ (n : Nat) (x2 : Int32) (x3 : Int64) (x5 : Int32) (v : gV), p_X9_projectByDelays_15 b   n x2 x3 x5 v → gqI Q v (f_X9_projectByDelays_15 b  n x2 x3 x5 v) → gG E m_X9_projectByDelays d Q 0 0 (rS v) 15 [(0, .ref (gX E + (b + 37))), (2, .int x2), (3, .long x3), (5, .int x5)] [] := by
  intro n
  induction n with
  | zero => intro x2 x3 x5 v hp; exact hp.elim
  | succ n ih =>
    intro x2 x3 x5 v hp hQ
    refine g_iload 3 dX9_projectByDelays_15 rfl ?_
    refine g_iconst dX9_projectByDelays_17 (5 : Int32) (by decide) ?_
    refine g_icmp_ge 36 dX9_projectByDelays_18 (by decide) (fun h2 => ?_) (fun h2 => ?_)
    · have hQ := qp (P := gqI Q v) h2 hQ
      have hp := hp.1 h2
      refine g_lload_n 2 dX9_projectByDelays_36 rfl ?_
      refine g_l2i dX9_projectByDelays_37 ?_
      exact g_iret rfl dX9_projectByDelays_38 hQ
    · have hQ := qn (P := gqI Q v) h2 hQ
      have hp := hp.2 h2
      refine g_aload_n 0 dX9_projectByDelays_21 rfl ?_
      refine g_lload_n 2 dX9_projectByDelays_22 rfl ?_
      refine g_iload 3 dX9_projectByDelays_23 rfl ?_
      refine g_iload_n 1 dX9_projectByDelays_25 rfl ?_
      obtain ⟨h3, hp⟩ := hp
      refine g_callV (rest := []) s_X9_24_X9 rfl (c_X9_timesFactor (E := E) (d := d - 1) b hb (by omega) x3 x5 x2 v h3) (kb_37 hb) (lt_b hb (by decide)) rfl rfl (Nat.le_of_ble_eq_true rfl) (by omega) (by decide) (by decide) dX9_projectByDelays_26 (adV ?_) axN
      refine g_lstore_n [(3, .long ((f_X9_timesFactor b x3 x5 x2 v))), (0, .ref (gX E + (b + 37))), (2, .int x2), (5, .int x5)] dX9_projectByDelays_29 rfl (by decide) rfl ?_
      refine g_iinc 3 (x5 + 1) [(5, .int (x5 + 1)), (3, .long ((f_X9_timesFactor b x3 x5 x2 v))), (0, .ref (gX E + (b + 37))), (2, .int x2)] dX9_projectByDelays_30 rfl rfl (by decide) rfl ?_
      refine g_goto 15 dX9_projectByDelays_33 (by decide) ?_
      refine g_lv (lv' := [(0, .ref (gX E + (b + 37))), (2, .int x2), (3, .long ((f_X9_timesFactor b x3 x5 x2 v))), (5, .int (x5 + 1))]) [2, 3, 1, 0] rfl ?_
      exact ih x2 (f_X9_timesFactor b x3 x5 x2 v) (x5 + 1) v hp hQ
def f_X9_projectByDelays_0 (b : Nat) (x1 : Int32) (x2 : Int32) (v : gV) : Int32 := f_X9_projectByDelays_15 b  5000 x2 ((f_X9_totalOf b x1 (x2 - x1) v).toInt64) (x2 - x1) v
def p_X9_projectByDelays_0 (b : Nat) (x1 : Int32) (x2 : Int32) (v : gV) : Prop := (p_X9_totalOf b x1 (x2 - x1) v) ∧ (p_X9_projectByDelays_15 b   5000 x2 ((f_X9_totalOf b x1 (x2 - x1) v).toInt64) (x2 - x1) v)
set_option maxHeartbeats 4000000 in
set_option maxRecDepth 100000 in
theorem w_X9_projectByDelays_0 {E : gE} {d : Nat} {Q : gO → gS → Prop} (b : Nat) (hb : isBk b) (hd : 3 ≤ d) (x1 : Int32) (x2 : Int32) (v : gV) (hp : p_X9_projectByDelays_0 b   x1 x2 v) (hQ : gqI Q v (f_X9_projectByDelays_0 b  x1 x2 v)) : gG E m_X9_projectByDelays d Q 0 0 (rS v) 0 [(0, .ref (gX E + (b + 37))), (1, .int x1), (2, .int x2)] [] := by
  refine g_aload_n 0 dX9_projectByDelays_0 rfl ?_
  refine g_iload_n 1 dX9_projectByDelays_1 rfl ?_
  refine g_iload_n 2 dX9_projectByDelays_2 rfl ?_
  refine g_iload_n 1 dX9_projectByDelays_3 rfl ?_
  refine g_isub dX9_projectByDelays_4 ?_
  obtain ⟨h1, hp⟩ := hp
  refine g_callV (rest := []) s_X9_20_X9 rfl (c_X9_totalOf (E := E) (d := d - 1) b hb (by omega) x1 (x2 - x1) v h1) (kb_37 hb) (lt_b hb (by decide)) rfl rfl (Nat.le_of_ble_eq_true rfl) (by omega) (by decide) (by decide) dX9_projectByDelays_5 (adV ?_) axN
  refine g_i2l dX9_projectByDelays_8 ?_
  refine g_lstore_n [(3, .long ((f_X9_totalOf b x1 (x2 - x1) v).toInt64)), (0, .ref (gX E + (b + 37))), (1, .int x1), (2, .int x2)] dX9_projectByDelays_9 rfl (by decide) rfl ?_
  refine g_iload_n 3 dX9_projectByDelays_10 rfl ?_
  refine g_iload_n 2 dX9_projectByDelays_11 rfl ?_
  refine g_isub dX9_projectByDelays_12 ?_
  refine g_istore [(5, .int (x2 - x1)), (3, .long ((f_X9_totalOf b x1 (x2 - x1) v).toInt64)), (0, .ref (gX E + (b + 37))), (1, .int x1), (2, .int x2)] dX9_projectByDelays_13 (by decide) rfl ?_
  refine g_lv (lv' := [(0, .ref (gX E + (b + 37))), (2, .int x2), (3, .long ((f_X9_totalOf b x1 (x2 - x1) v).toInt64)), (5, .int (x2 - x1))]) [2, 4, 1, 0] rfl ?_
  exact w_X9_projectByDelays_15 b hb hd    5000 x2 ((f_X9_totalOf b x1 (x2 - x1) v).toInt64) (x2 - x1) v hp hQ
def f_X9_projectByDelays (b : Nat) (x1 : Int32) (x2 : Int32) (v : gV) : Int32 := f_X9_projectByDelays_0 b x1 x2 v
def p_X9_projectByDelays (b : Nat) (x1 : Int32) (x2 : Int32) (v : gV) : Prop := p_X9_projectByDelays_0 b x1 x2 v
theorem c_X9_projectByDelays {E : gE} {d : Nat} (b : Nat) (hb : isBk b) (hd : 3 ≤ d) (x1 : Int32) (x2 : Int32) (v : gV) (hp : p_X9_projectByDelays b x1 x2 v) : CT E m_X9_projectByDelays d 0 0 [.ref (gX E + (b + 37)), .int x1, .int x2] (rS v) (Cq (.inl (some (.int (f_X9_projectByDelays b x1 x2 v)))) v) := CT.of ok_X9_projectByDelays rfl (Nat.le_of_ble_eq_true rfl) (w_X9_projectByDelays_0 b hb hd x1 x2 v hp ⟨rfl, rfl⟩)
def f_X9_sumOfUnpaid_4 (b : Nat) : Nat → Int32 → Int32 → Int32 → gV → Int32
  | 0, _, _, _, v => 0
  | n + 1, x1, x2, x3, v => if (if (5 : Int32) < x1 then (5 : Int32) else x1) < x3 then x2 else (f_X9_sumOfUnpaid_4 b  n x1 (x2 + ((f_X9_projectByDelays b x3 x1 v) - (f_X9_totalOf b x3 (5 : Int32) v))) (x3 + 1) v)
def p_X9_sumOfUnpaid_4 (b : Nat) : Nat → Int32 → Int32 → Int32 → gV → Prop
  | 0, _, _, _, _ => False
  | n + 1, x1, x2, x3, v => (((if (5 : Int32) < x1 then (5 : Int32) else x1) < x3) → (True)) ∧ (¬ ((if (5 : Int32) < x1 then (5 : Int32) else x1) < x3) → ((p_X9_projectByDelays b x3 x1 v) ∧ ((p_X9_totalOf b x3 (5 : Int32) v) ∧ (p_X9_sumOfUnpaid_4 b   n x1 (x2 + ((f_X9_projectByDelays b x3 x1 v) - (f_X9_totalOf b x3 (5 : Int32) v))) (x3 + 1) v))))
set_option maxHeartbeats 4000000 in
set_option maxRecDepth 100000 in
theorem w_X9_sumOfUnpaid_4 {E : gE} {d : Nat} {Q : gO → gS → Prop} (b : Nat) (hb : isBk b) (hd : 4 ≤ d) : ∀ (n : Nat) (x1 : Int32) (x2 : Int32) (x3 : Int32) (v : gV), p_X9_sumOfUnpaid_4 b   n x1 x2 x3 v → gqI Q v (f_X9_sumOfUnpaid_4 b  n x1 x2 x3 v) → gG E m_X9_sumOfUnpaid d Q 0 0 (rS v) 4 [(0, .ref (gX E + (b + 37))), (1, .int x1), (2, .int x2), (3, .int x3)] [] := by
  intro n
  induction n with
  | zero => intro x1 x2 x3 v hp; exact hp.elim
  | succ n ih =>
    intro x1 x2 x3 v hp hQ
    refine g_iload_n 3 dX9_sumOfUnpaid_4 rfl ?_
    refine g_iload_n 1 dX9_sumOfUnpaid_5 rfl ?_
    refine g_iconst dX9_sumOfUnpaid_6 (5 : Int32) (by decide) ?_
    refine r_mmin mw_X9_36 rfl (Nat.le_of_ble_eq_true rfl) (by omega) dX9_sumOfUnpaid_7 ?_
    refine g_icmp_gt 35 dX9_sumOfUnpaid_10 (by decide) (fun h1 => ?_) (fun h1 => ?_)
    · have hQ := qp (P := gqI Q v) h1 hQ
      have hp := hp.1 h1
      refine g_iload_n 2 dX9_sumOfUnpaid_35 rfl ?_
      exact g_iret rfl dX9_sumOfUnpaid_36 hQ
    · have hQ := qn (P := gqI Q v) h1 hQ
      have hp := hp.2 h1
      refine g_iload_n 2 dX9_sumOfUnpaid_13 rfl ?_
      refine g_aload_n 0 dX9_sumOfUnpaid_14 rfl ?_
      refine g_iload_n 3 dX9_sumOfUnpaid_15 rfl ?_
      refine g_iload_n 1 dX9_sumOfUnpaid_16 rfl ?_
      obtain ⟨h2, hp⟩ := hp
      refine g_callV (rest := [.int x2]) s_X9_41_X9 rfl (c_X9_projectByDelays (E := E) (d := d - 1) b hb (by omega) x3 x1 v h2) (kb_37 hb) (lt_b hb (by decide)) rfl rfl (Nat.le_of_ble_eq_true rfl) (by omega) (by decide) (by decide) dX9_sumOfUnpaid_17 (adV ?_) axN
      refine g_aload_n 0 dX9_sumOfUnpaid_20 rfl ?_
      refine g_iload_n 3 dX9_sumOfUnpaid_21 rfl ?_
      refine g_iconst dX9_sumOfUnpaid_22 (5 : Int32) (by decide) ?_
      obtain ⟨h3, hp⟩ := hp
      refine g_callV (rest := [.int ((f_X9_projectByDelays b x3 x1 v)), .int x2]) s_X9_20_X9 rfl (c_X9_totalOf (E := E) (d := d - 1) b hb (by omega) x3 (5 : Int32) v h3) (kb_37 hb) (lt_b hb (by decide)) rfl rfl (Nat.le_of_ble_eq_true rfl) (by omega) (by decide) (by decide) dX9_sumOfUnpaid_23 (adV ?_) axN
      refine g_isub dX9_sumOfUnpaid_26 ?_
      refine g_iadd dX9_sumOfUnpaid_27 ?_
      refine g_istore_n [(2, .int (x2 + ((f_X9_projectByDelays b x3 x1 v) - (f_X9_totalOf b x3 (5 : Int32) v)))), (0, .ref (gX E + (b + 37))), (1, .int x1), (3, .int x3)] dX9_sumOfUnpaid_28 rfl (by decide) rfl ?_
      refine g_iinc 3 (x3 + 1) [(3, .int (x3 + 1)), (2, .int (x2 + ((f_X9_projectByDelays b x3 x1 v) - (f_X9_totalOf b x3 (5 : Int32) v)))), (0, .ref (gX E + (b + 37))), (1, .int x1)] dX9_sumOfUnpaid_29 rfl rfl (by decide) rfl ?_
      refine g_goto 4 dX9_sumOfUnpaid_32 (by decide) ?_
      refine g_lv (lv' := [(0, .ref (gX E + (b + 37))), (1, .int x1), (2, .int (x2 + ((f_X9_projectByDelays b x3 x1 v) - (f_X9_totalOf b x3 (5 : Int32) v)))), (3, .int (x3 + 1))]) [2, 3, 1, 0] rfl ?_
      exact ih x1 (x2 + ((f_X9_projectByDelays b x3 x1 v) - (f_X9_totalOf b x3 (5 : Int32) v))) (x3 + 1) v hp hQ
def f_X9_sumOfUnpaid_0 (b : Nat) (x1 : Int32) (v : gV) : Int32 := f_X9_sumOfUnpaid_4 b  5000 x1 (0 : Int32) (0 : Int32) v
def p_X9_sumOfUnpaid_0 (b : Nat) (x1 : Int32) (v : gV) : Prop := p_X9_sumOfUnpaid_4 b   5000 x1 (0 : Int32) (0 : Int32) v
set_option maxHeartbeats 4000000 in
set_option maxRecDepth 100000 in
theorem w_X9_sumOfUnpaid_0 {E : gE} {d : Nat} {Q : gO → gS → Prop} (b : Nat) (hb : isBk b) (hd : 4 ≤ d) (x1 : Int32) (v : gV) (hp : p_X9_sumOfUnpaid_0 b   x1 v) (hQ : gqI Q v (f_X9_sumOfUnpaid_0 b  x1 v)) : gG E m_X9_sumOfUnpaid d Q 0 0 (rS v) 0 [(0, .ref (gX E + (b + 37))), (1, .int x1)] [] := by
  refine g_iconst dX9_sumOfUnpaid_0 (0 : Int32) (by decide) ?_
  refine g_istore_n [(2, .int ((0 : Int32))), (0, .ref (gX E + (b + 37))), (1, .int x1)] dX9_sumOfUnpaid_1 rfl (by decide) rfl ?_
  refine g_iconst dX9_sumOfUnpaid_2 (0 : Int32) (by decide) ?_
  refine g_istore_n [(3, .int ((0 : Int32))), (2, .int ((0 : Int32))), (0, .ref (gX E + (b + 37))), (1, .int x1)] dX9_sumOfUnpaid_3 rfl (by decide) rfl ?_
  refine g_lv (lv' := [(0, .ref (gX E + (b + 37))), (1, .int x1), (2, .int ((0 : Int32))), (3, .int ((0 : Int32)))]) [2, 3, 1, 0] rfl ?_
  exact w_X9_sumOfUnpaid_4 b hb hd    5000 x1 (0 : Int32) (0 : Int32) v hp hQ
def f_X9_sumOfUnpaid (b : Nat) (x1 : Int32) (v : gV) : Int32 := f_X9_sumOfUnpaid_0 b x1 v
def p_X9_sumOfUnpaid (b : Nat) (x1 : Int32) (v : gV) : Prop := p_X9_sumOfUnpaid_0 b x1 v
theorem c_X9_sumOfUnpaid {E : gE} {d : Nat} (b : Nat) (hb : isBk b) (hd : 4 ≤ d) (x1 : Int32) (v : gV) (hp : p_X9_sumOfUnpaid b x1 v) : CT E m_X9_sumOfUnpaid d 0 0 [.ref (gX E + (b + 37)), .int x1] (rS v) (Cq (.inl (some (.int (f_X9_sumOfUnpaid b x1 v)))) v) := CT.of ok_X9_sumOfUnpaid rfl (Nat.le_of_ble_eq_true rfl) (w_X9_sumOfUnpaid_0 b hb hd x1 v hp ⟨rfl, rfl⟩)
def f_X11_projected_21  (x2 : Int32) (s0 : Int32) (v : gV) : Int32 ⊕ String := Sum.inl (f_X9_projectByDelays 1 s0 x2 v)
def p_X11_projected_21  (x2 : Int32) (s0 : Int32) (v : gV) : Prop := (p_X9_projectByDelays 1 s0 x2 v) ∧ (True)
set_option maxHeartbeats 4000000 in
set_option maxRecDepth 100000 in
theorem w_X11_projected_21 {E : gE} {d : Nat} {Q : gO → gS → Prop}   (hd : 8 ≤ d) (x2 : Int32) (s0 : Int32) (v : gV) (hp : p_X11_projected_21   x2 s0 v) (hQ : gqTI Q v (f_X11_projected_21  x2 s0 v)) : gG E m_X11_projected d Q 0 0 (rS v) 21 [(2, .int x2)] [.int s0, .ref (gX E + (1 + 37))] := by
  refine g_iload_n 0 dX11_projected_21 rfl ?_
  obtain ⟨h5, hp⟩ := hp
  refine g_callV (rest := []) s_X11_227_X9 rfl (c_X9_projectByDelays (E := E) (d := d - 1) 1 isBk_1 (by omega) s0 x2 v h5) (kb_37 isBk_1) (lt_b isBk_1 (by decide)) rfl rfl (Nat.le_of_ble_eq_true rfl) (by omega) (by decide) (by decide) dX11_projected_22 (adV ?_) axN
  exact g_iret rfl dX11_projected_25 hQ
def f_X11_projected_0  (x1 : Int32) (v : gV) : Int32 ⊕ String := Sum.elim (fun (sr3 : Int32) => f_X11_projected_21  (f_X1_latestPeriod 1 v) sr3 v) (fun (e : String) => Sum.inr e) (f_X11_checkedNumber x1 (0 : Int32) (f_X1_latestPeriod 1 v) v)
def p_X11_projected_0  (x1 : Int32) (v : gV) : Prop := (p_X1_latestPeriod 1 v) ∧ ((p_X11_checkedNumber x1 (0 : Int32) (f_X1_latestPeriod 1 v) v) ∧ (∀ (sr3 : Int32), (f_X11_checkedNumber x1 (0 : Int32) (f_X1_latestPeriod 1 v) v) = Sum.inl sr3 → (p_X11_projected_21   (f_X1_latestPeriod 1 v) sr3 v)))
set_option maxHeartbeats 4000000 in
set_option maxRecDepth 100000 in
theorem w_X11_projected_0 {E : gE} {d : Nat} {Q : gO → gS → Prop}   (hd : 8 ≤ d) (x1 : Int32) (v : gV) (hp : p_X11_projected_0   x1 v) (hQ : gqTI Q v (f_X11_projected_0  x1 v)) : gG E m_X11_projected d Q 1 6 (rS v) 0 [(0, .ref (gX E + 0)), (1, .int x1)] [] := by
  refine g_aload_n 0 dX11_projected_0 rfl ?_
  refine r_get (.ref (gX E + 1)) f_X11_10_X11 rfl (by decide : kd 0 = (0, 8)) (show 0 < 572 by decide) dX11_projected_1 (fun _ => rfl) ?_
  obtain ⟨h1, hp⟩ := hp
  refine g_callV (rest := []) s_X11_223_X1 rfl (c_X1_latestPeriod (E := E) (d := d - 1) 1 isBk_1 (by omega)  v h1) (kbz isBk_1) (lt_b0 isBk_1) rfl rfl (Nat.le_of_ble_eq_true rfl) (by omega) (by decide) (by decide) dX11_projected_4 (adV ?_) axN
  refine g_istore_n [(2, .int ((f_X1_latestPeriod 1 v))), (0, .ref (gX E + 0)), (1, .int x1)] dX11_projected_7 rfl (by decide) rfl ?_
  refine g_aload_n 1 dX11_projected_8 rfl ?_
  refine r_get (.ref (gX E + 1)) f_X11_10_X11 rfl (by decide : kd 0 = (0, 8)) (show 0 < 572 by decide) dX11_projected_9 (fun _ => rfl) ?_
  refine r_get (.ref (gX E + (1 + 37))) f_X11_214_X1 rfl (kbz isBk_1) (lt_b0 isBk_1) dX11_projected_12 (fun _ => rfl) ?_
  refine g_iload_n 2 dX11_projected_15 rfl ?_
  refine g_iconst dX11_projected_16 (0 : Int32) (by decide) ?_
  refine g_iload_n 0 dX11_projected_17 rfl ?_
  obtain ⟨h2, hp⟩ := hp
  refine g_callS (rest := [.ref (gX E + (1 + 37))]) s_X11_190 rfl (c_X11_checkedNumber (E := E) (d := d - 1)   (by omega) x1 (0 : Int32) (f_X1_latestPeriod 1 v) v h2) rfl rfl (Nat.le_of_ble_eq_true rfl) (by omega) (by decide) (by decide) dX11_projected_18 (adTI (fun sr3 h4 => ?_)) (axTI (fun e h4 => g_outs rfl rfl (qe (P := gqTI Q v) h4 hQ)))
  have hQ := ql (P := gqTI Q v) h4 hQ
  have hp := hp sr3 h4
  refine g_lv (lv' := [(2, .int ((f_X1_latestPeriod 1 v)))]) [0] rfl ?_
  exact w_X11_projected_21  hd    (f_X1_latestPeriod 1 v) sr3 v hp hQ
def f_X11_projected  (x1 : Int32) (v : gV) : Int32 ⊕ String := f_X11_projected_0 x1 v
def p_X11_projected  (x1 : Int32) (v : gV) : Prop := p_X11_projected_0 x1 v
theorem c_X11_projected {E : gE} {d : Nat}   (hd : 8 ≤ d) (x1 : Int32) (v : gV) (hp : p_X11_projected x1 v) : CT E m_X11_projected d 1 6 [.ref (gX E + 0), .int x1] (rS v) (Cq (gOi (f_X11_projected x1 v)) v) := CT.of ok_X11_projected rfl (Nat.le_of_ble_eq_true rfl) (w_X11_projected_0  hd x1 v hp ⟨rfl, rfl⟩)
def f_X11_reserve_0   (v : gV) : Int32 := (f_X9_sumOfUnpaid 1 (f_X1_latestPeriod 1 v) v)
def p_X11_reserve_0   (v : gV) : Prop := (p_X1_latestPeriod 1 v) ∧ ((p_X9_sumOfUnpaid 1 (f_X1_latestPeriod 1 v) v) ∧ (True))
set_option maxHeartbeats 4000000 in
set_option maxRecDepth 100000 in
theorem w_X11_reserve_0 {E : gE} {d : Nat} {Q : gO → gS → Prop}   (hd : 5 ≤ d)  (v : gV) (hp : p_X11_reserve_0    v) (hQ : gqI Q v (f_X11_reserve_0   v)) : gG E m_X11_reserve d Q 0 0 (rS v) 0 [(0, .ref (gX E + 0))] [] := by
  refine g_aload_n 0 dX11_reserve_0 rfl ?_
  refine r_get (.ref (gX E + 1)) f_X11_10_X11 rfl (by decide : kd 0 = (0, 8)) (show 0 < 572 by decide) dX11_reserve_1 (fun _ => rfl) ?_
  refine r_get (.ref (gX E + (1 + 37))) f_X11_214_X1 rfl (kbz isBk_1) (lt_b0 isBk_1) dX11_reserve_4 (fun _ => rfl) ?_
  refine g_aload_n 0 dX11_reserve_7 rfl ?_
  refine r_get (.ref (gX E + 1)) f_X11_10_X11 rfl (by decide : kd 0 = (0, 8)) (show 0 < 572 by decide) dX11_reserve_8 (fun _ => rfl) ?_
  obtain ⟨h1, hp⟩ := hp
  refine g_callV (rest := [.ref (gX E + (1 + 37))]) s_X11_223_X1 rfl (c_X1_latestPeriod (E := E) (d := d - 1) 1 isBk_1 (by omega)  v h1) (kbz isBk_1) (lt_b0 isBk_1) rfl rfl (Nat.le_of_ble_eq_true rfl) (by omega) (by decide) (by decide) dX11_reserve_11 (adV ?_) axN
  obtain ⟨h2, hp⟩ := hp
  refine g_callV (rest := []) s_X11_233_X9 rfl (c_X9_sumOfUnpaid (E := E) (d := d - 1) 1 isBk_1 (by omega) (f_X1_latestPeriod 1 v) v h2) (kb_37 isBk_1) (lt_b isBk_1 (by decide)) rfl rfl (Nat.le_of_ble_eq_true rfl) (by omega) (by decide) (by decide) dX11_reserve_14 (adV ?_) axN
  exact g_iret rfl dX11_reserve_17 hQ
def f_X11_reserve   (v : gV) : Int32 := f_X11_reserve_0  v
def p_X11_reserve   (v : gV) : Prop := p_X11_reserve_0  v
theorem c_X11_reserve {E : gE} {d : Nat}   (hd : 5 ≤ d)  (v : gV) (hp : p_X11_reserve  v) : CT E m_X11_reserve d 0 0 [.ref (gX E + 0)] (rS v) (Cq (.inl (some (.int (f_X11_reserve  v)))) v) := CT.of ok_X11_reserve rfl (Nat.le_of_ble_eq_true rfl) (w_X11_reserve_0  hd  v hp ⟨rfl, rfl⟩)
def f_X11_save_16   (v : gV) : Int32 × gV := (v.1 (1 + 1) 1, v)
def p_X11_save_16   (v : gV) : Prop := True
set_option maxHeartbeats 4000000 in
set_option maxRecDepth 100000 in
theorem w_X11_save_16 {E : gE} {d : Nat} {Q : gO → gS → Prop}   (hd : 6 ≤ d)  (v : gV) (hp : p_X11_save_16    v) (hQ : gqIV Q (f_X11_save_16   v)) : gG E m_X11_save d Q 0 0 (rS v) 16 [(0, .ref (gX E + 0))] [] := by
  refine g_aload_n 0 dX11_save_16 rfl ?_
  refine r_get (.ref (gX E + 1)) f_X11_10_X11 rfl (by decide : kd 0 = (0, 8)) (show 0 < 572 by decide) dX11_save_17 (fun _ => rfl) ?_
  refine r_get (.ref (gX E + (1 + 1))) f_X11_108_X1 rfl (kbz isBk_1) (lt_b0 isBk_1) dX11_save_20 (fun _ => rfl) ?_
  refine r_get (.int (v.1 (1 + 1) 1)) f_X11_112_X5 rfl (kb_1 isBk_1) (lt_b isBk_1 (by decide)) dX11_save_23 (fun _ => rfl) ?_
  exact g_iret rfl dX11_save_26 hQ
def f_X11_save_11   (v : gV) : Int32 × gV := f_X11_save_16   (vM v 0 5 (1 : Int32))
def p_X11_save_11   (v : gV) : Prop := p_X11_save_16    (vM v 0 5 (1 : Int32))
set_option maxHeartbeats 4000000 in
set_option maxRecDepth 100000 in
theorem w_X11_save_11 {E : gE} {d : Nat} {Q : gO → gS → Prop}   (hd : 6 ≤ d)  (v : gV) (hp : p_X11_save_11    v) (hQ : gqIV Q (f_X11_save_11   v)) : gG E m_X11_save d Q 0 0 (rS v) 11 [(0, .ref (gX E + 0))] [] := by
  refine g_aload_n 0 dX11_save_11 rfl ?_
  refine g_iconst dX11_save_12 (1 : Int32) (by decide) ?_
  refine r_put pf_X11_40_X11 rfl (by decide : kd 0 = (0, 8)) (by decide) (by decide) rfl (show 0 < 572 by decide) rfl rfl dX11_save_13 ?_
  exact w_X11_save_16  hd     (vM v 0 5 (1 : Int32)) hp hQ
def f_X11_save_0   (v : gV) : Int32 × gV := f_X11_save_11   (f_X1_copyFrom 51 1 v)
def p_X11_save_0   (v : gV) : Prop := (p_X1_copyFrom 51 1 v) ∧ (p_X11_save_11    (f_X1_copyFrom 51 1 v))
set_option maxHeartbeats 4000000 in
set_option maxRecDepth 100000 in
theorem w_X11_save_0 {E : gE} {d : Nat} {Q : gO → gS → Prop}   (hd : 6 ≤ d)  (v : gV) (hp : p_X11_save_0    v) (hQ : gqIV Q (f_X11_save_0   v)) : gG E m_X11_save d Q 0 0 (rS v) 0 [(0, .ref (gX E + 0))] [] := by
  refine g_aload_n 0 dX11_save_0 rfl ?_
  refine r_get (.ref (gX E + 51)) f_X11_16_X11 rfl (by decide : kd 0 = (0, 8)) (show 0 < 572 by decide) dX11_save_1 (fun _ => rfl) ?_
  refine g_aload_n 0 dX11_save_4 rfl ?_
  refine r_get (.ref (gX E + 1)) f_X11_10_X11 rfl (by decide : kd 0 = (0, 8)) (show 0 < 572 by decide) dX11_save_5 (fun _ => rfl) ?_
  obtain ⟨h1, hp⟩ := hp
  refine g_callV (rest := []) s_X11_336_X1 rfl (c_X1_copyFrom (E := E) (d := d - 1) 51 1 isBk_51 isBk_1 (by omega)  v h1) (kbz isBk_51) (lt_b0 isBk_51) rfl rfl (Nat.le_of_ble_eq_true rfl) (by omega) (by decide) (by decide) dX11_save_8 (adN ?_) axN
  exact w_X11_save_11  hd     (f_X1_copyFrom 51 1 v) hp hQ
def f_X11_save   (v : gV) : Int32 × gV := f_X11_save_0  v
def p_X11_save   (v : gV) : Prop := p_X11_save_0  v
theorem c_X11_save {E : gE} {d : Nat}   (hd : 6 ≤ d)  (v : gV) (hp : p_X11_save  v) : CT E m_X11_save d 0 0 [.ref (gX E + 0)] (rS v) (Cq (.inl (some (.int ((f_X11_save  v).1)))) (f_X11_save  v).2) := CT.of ok_X11_save rfl (Nat.le_of_ble_eq_true rfl) (w_X11_save_0  hd  v hp ⟨rfl, rfl⟩)
def f_X11_restore_36   (v : gV) : (Int32 ⊕ String) × gV := (Sum.inl (v.1 (1 + 1) 1), v)
def p_X11_restore_36   (v : gV) : Prop := True
set_option maxHeartbeats 4000000 in
set_option maxRecDepth 100000 in
theorem w_X11_restore_36 {E : gE} {d : Nat} {Q : gO → gS → Prop}   (hd : 7 ≤ d)  (v : gV) (hp : p_X11_restore_36    v) (hQ : gqTIV Q (f_X11_restore_36   v)) : gG E m_X11_restore d Q 0 0 (rS v) 36 [(0, .ref (gX E + 0))] [] := by
  refine g_aload_n 0 dX11_restore_36 rfl ?_
  refine r_get (.ref (gX E + 1)) f_X11_10_X11 rfl (by decide : kd 0 = (0, 8)) (show 0 < 572 by decide) dX11_restore_37 (fun _ => rfl) ?_
  refine r_get (.ref (gX E + (1 + 1))) f_X11_108_X1 rfl (kbz isBk_1) (lt_b0 isBk_1) dX11_restore_40 (fun _ => rfl) ?_
  refine r_get (.int (v.1 (1 + 1) 1)) f_X11_112_X5 rfl (kb_1 isBk_1) (lt_b isBk_1 (by decide)) dX11_restore_43 (fun _ => rfl) ?_
  exact g_iret rfl dX11_restore_46 hQ
def f_X11_restore_29   (v : gV) : (Int32 ⊕ String) × gV := f_X11_restore_36   (f_X3_forget  v)
def p_X11_restore_29   (v : gV) : Prop := (p_X3_forget  v) ∧ (p_X11_restore_36    (f_X3_forget  v))
set_option maxHeartbeats 4000000 in
set_option maxRecDepth 100000 in
theorem w_X11_restore_29 {E : gE} {d : Nat} {Q : gO → gS → Prop}   (hd : 7 ≤ d)  (v : gV) (hp : p_X11_restore_29    v) (hQ : gqTIV Q (f_X11_restore_29   v)) : gG E m_X11_restore d Q 0 0 (rS v) 29 [(0, .ref (gX E + 0))] [] := by
  refine g_aload_n 0 dX11_restore_29 rfl ?_
  refine r_get (.ref (gX E + 101)) f_X11_22_X11 rfl (by decide : kd 0 = (0, 8)) (show 0 < 572 by decide) dX11_restore_30 (fun _ => rfl) ?_
  obtain ⟨h3, hp⟩ := hp
  refine g_callV (rest := []) s_X11_341_X3 rfl (c_X3_forget (E := E) (d := d - 1)   (by omega)  v h3) (by decide : kd 101 = (0, 2)) (show 101 < 572 by decide) rfl rfl (Nat.le_of_ble_eq_true rfl) (by omega) (by decide) (by decide) dX11_restore_33 (adN ?_) axN
  exact w_X11_restore_36  hd     (f_X3_forget  v) hp hQ
def f_X11_restore_0   (v : gV) : (Int32 ⊕ String) × gV := if (v.1 0 5) = 0 then ((Sum.inr "java/lang/IllegalStateException", v)) else (f_X11_restore_29   (f_X1_copyFrom 1 51 v))
def p_X11_restore_0   (v : gV) : Prop := (((v.1 0 5) = 0) → (True)) ∧ (¬ ((v.1 0 5) = 0) → ((p_X1_copyFrom 1 51 v) ∧ (p_X11_restore_29    (f_X1_copyFrom 1 51 v))))
set_option maxHeartbeats 4000000 in
set_option maxRecDepth 100000 in
theorem w_X11_restore_0 {E : gE} {d : Nat} {Q : gO → gS → Prop}   (hd : 7 ≤ d)  (v : gV) (hp : p_X11_restore_0    v) (hQ : gqTIV Q (f_X11_restore_0   v)) : gG E m_X11_restore d Q 1 6 (rS v) 0 [(0, .ref (gX E + 0))] [] := by
  refine g_aload_n 0 dX11_restore_0 rfl ?_
  refine r_get (.int (v.1 0 5)) f_X11_40_X11 rfl (by decide : kd 0 = (0, 8)) (show 0 < 572 by decide) dX11_restore_1 (fun _ => rfl) ?_
  refine g_if_ne 18 dX11_restore_4 (by decide) (fun h1 => ?_) (fun h1 => ?_)
  · have hQ := qn (P := gqTIV Q) h1 hQ
    have hp := hp.2 h1
    refine g_aload_n 0 dX11_restore_18 rfl ?_
    refine r_get (.ref (gX E + 1)) f_X11_10_X11 rfl (by decide : kd 0 = (0, 8)) (show 0 < 572 by decide) dX11_restore_19 (fun _ => rfl) ?_
    refine g_aload_n 0 dX11_restore_22 rfl ?_
    refine r_get (.ref (gX E + 51)) f_X11_16_X11 rfl (by decide : kd 0 = (0, 8)) (show 0 < 572 by decide) dX11_restore_23 (fun _ => rfl) ?_
    obtain ⟨h2, hp⟩ := hp
    refine g_callV (rest := []) s_X11_336_X1 rfl (c_X1_copyFrom (E := E) (d := d - 1) 1 51 isBk_1 isBk_51 (by omega)  v h2) (kbz isBk_1) (lt_b0 isBk_1) rfl rfl (Nat.le_of_ble_eq_true rfl) (by omega) (by decide) (by decide) dX11_restore_26 (adN ?_) axN
    refine g_room (k' := 0) (n' := 0) (by decide) (by decide) ?_
    exact w_X11_restore_29  hd     (f_X1_copyFrom 1 51 v) hp hQ
  · have hQ := qp (P := gqTIV Q) h1 hQ
    have hp := hp.1 h1
    exact g_throwSW rfl t_X11_324_339 rfl rfl rfl (by omega) (by decide) (by decide) (Nat.le_of_ble_eq_true rfl) dX11_restore_7 dX11_restore_10 dX11_restore_11 dX11_restore_14 dX11_restore_17 hQ
def f_X11_restore   (v : gV) : (Int32 ⊕ String) × gV := f_X11_restore_0  v
def p_X11_restore   (v : gV) : Prop := p_X11_restore_0  v
theorem c_X11_restore {E : gE} {d : Nat}   (hd : 7 ≤ d)  (v : gV) (hp : p_X11_restore  v) : CT E m_X11_restore d 1 6 [.ref (gX E + 0)] (rS v) (Cq (gOi (f_X11_restore  v).1) (f_X11_restore  v).2) := CT.of ok_X11_restore rfl (Nat.le_of_ble_eq_true rfl) (w_X11_restore_0  hd  v hp ⟨rfl, rfl⟩)
