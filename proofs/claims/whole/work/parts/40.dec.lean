def f_J9_floorMod_7cf53_18  (x2 : Int32) (v : gV) : Int32 := x2
def p_J9_floorMod_7cf53_18  (x2 : Int32) (v : gV) : Prop := True
set_option maxHeartbeats 4000000 in
set_option maxRecDepth 100000 in
theorem w_J9_floorMod_7cf53_18 {E : gE} {d : Nat} {Q : gO → gS → Prop}   (hd : 0 ≤ d) (x2 : Int32) (v : gV) (hp : p_J9_floorMod_7cf53_18   x2 v) (hQ : gqI Q v (f_J9_floorMod_7cf53_18  x2 v)) : gG E m_J9_floorMod_7cf53 d Q 0 0 (rS v) 18 [(2, .int x2)] [] := by
  refine g_iload_n 0 dJ9_floorMod_7cf53_18 rfl ?_
  exact g_iret rfl dJ9_floorMod_7cf53_19 hQ
def f_J9_floorMod_7cf53_0  (x0 : Int32) (x1 : Int32) (v : gV) : Int32 := if 0 ≤ (x0 ^^^ x1) then (f_J9_floorMod_7cf53_18  (x0 - x0 / x1 * x1) v) else (if (x0 - x0 / x1 * x1) = 0 then (f_J9_floorMod_7cf53_18  (x0 - x0 / x1 * x1) v) else ((x0 - x0 / x1 * x1) + x1))
def p_J9_floorMod_7cf53_0  (x0 : Int32) (x1 : Int32) (v : gV) : Prop := (¬ x1 = 0) ∧ (((0 ≤ (x0 ^^^ x1)) → (p_J9_floorMod_7cf53_18   (x0 - x0 / x1 * x1) v)) ∧ (¬ (0 ≤ (x0 ^^^ x1)) → ((((x0 - x0 / x1 * x1) = 0) → (p_J9_floorMod_7cf53_18   (x0 - x0 / x1 * x1) v)) ∧ (¬ ((x0 - x0 / x1 * x1) = 0) → (True)))))
set_option maxHeartbeats 4000000 in
set_option maxRecDepth 100000 in
theorem w_J9_floorMod_7cf53_0 {E : gE} {d : Nat} {Q : gO → gS → Prop}   (hd : 0 ≤ d) (x0 : Int32) (x1 : Int32) (v : gV) (hp : p_J9_floorMod_7cf53_0   x0 x1 v) (hQ : gqI Q v (f_J9_floorMod_7cf53_0  x0 x1 v)) : gG E m_J9_floorMod_7cf53 d Q 0 0 (rS v) 0 [(0, .int x0), (1, .int x1)] [] := by
  refine g_iload_n 0 dJ9_floorMod_7cf53_0 rfl ?_
  refine g_iload_n 1 dJ9_floorMod_7cf53_1 rfl ?_
  obtain ⟨h1, hp⟩ := hp
  refine g_irem dJ9_floorMod_7cf53_2 h1 ?_
  refine g_istore_n [(2, .int (x0 - x0 / x1 * x1)), (0, .int x0), (1, .int x1)] dJ9_floorMod_7cf53_3 rfl (by decide) rfl ?_
  refine g_iload_n 1 dJ9_floorMod_7cf53_4 rfl ?_
  refine g_iload_n 2 dJ9_floorMod_7cf53_5 rfl ?_
  refine g_ixor dJ9_floorMod_7cf53_6 ?_
  refine g_if_ge 18 dJ9_floorMod_7cf53_7 (by decide) (fun h2 => ?_) (fun h2 => ?_)
  · have hQ := qp (P := gqI Q v) h2 hQ
    have hp := hp.1 h2
    refine g_lv (lv' := [(2, .int (x0 - x0 / x1 * x1))]) [0] rfl ?_
    exact w_J9_floorMod_7cf53_18  hd    (x0 - x0 / x1 * x1) v hp hQ
  · have hQ := qn (P := gqI Q v) h2 hQ
    have hp := hp.2 h2
    refine g_iload_n 0 dJ9_floorMod_7cf53_10 rfl ?_
    refine g_if_eq 18 dJ9_floorMod_7cf53_11 (by decide) (fun h3 => ?_) (fun h3 => ?_)
    · have hQ := qp (P := gqI Q v) h3 hQ
      have hp := hp.1 h3
      refine g_lv (lv' := [(2, .int (x0 - x0 / x1 * x1))]) [0] rfl ?_
      exact w_J9_floorMod_7cf53_18  hd    (x0 - x0 / x1 * x1) v hp hQ
    · have hQ := qn (P := gqI Q v) h3 hQ
      have hp := hp.2 h3
      refine g_iload_n 0 dJ9_floorMod_7cf53_14 rfl ?_
      refine g_iload_n 2 dJ9_floorMod_7cf53_15 rfl ?_
      refine g_iadd dJ9_floorMod_7cf53_16 ?_
      exact g_iret rfl dJ9_floorMod_7cf53_17 hQ
def f_J9_floorMod_7cf53  (x0 : Int32) (x1 : Int32) (v : gV) : Int32 := f_J9_floorMod_7cf53_0 x0 x1 v
def p_J9_floorMod_7cf53  (x0 : Int32) (x1 : Int32) (v : gV) : Prop := p_J9_floorMod_7cf53_0 x0 x1 v
theorem c_J9_floorMod_7cf53 {E : gE} {d : Nat}   (hd : 0 ≤ d) (x0 : Int32) (x1 : Int32) (v : gV) (hp : p_J9_floorMod_7cf53 x0 x1 v) : CT E m_J9_floorMod_7cf53 d 0 0 [.int x0, .int x1] (rS v) (Cq (.inl (some (.int (f_J9_floorMod_7cf53 x0 x1 v)))) v) := CT.ofF ok_J9_floorMod_7cf53 rfl (Nat.le_of_ble_eq_true rfl) (w_J9_floorMod_7cf53_0  hd x0 x1 v hp ⟨rfl, rfl⟩)
def f_X3_spare_0   (v : gV) : Nat := (103 + 50 * (f_J9_floorMod_7cf53 ((v.1 101 1) + (v.1 101 2)) (9 : Int32) v).toNatClampNeg)
def p_X3_spare_0   (v : gV) : Prop := (p_J9_floorMod_7cf53 ((v.1 101 1) + (v.1 101 2)) (9 : Int32) v) ∧ ((vp_in (f_J9_floorMod_7cf53 ((v.1 101 1) + (v.1 101 2)) (9 : Int32) v) 9) ∧ (True))
set_option maxHeartbeats 4000000 in
set_option maxRecDepth 100000 in
theorem w_X3_spare_0 {E : gE} {d : Nat} {Q : gO → gS → Prop}   (hd : 1 ≤ d)  (v : gV) (hp : p_X3_spare_0    v) (hQ : gqA E Q v (f_X3_spare_0   v)) : gG E m_X3_spare d Q 0 0 (rS v) 0 [(0, .ref (gX E + 101))] [] := by
  refine g_aload_n 0 dX3_spare_0 rfl ?_
  refine r_get (.ref (gX E + 102)) f_X3_11_X3 rfl (by decide : kd 101 = (0, 2)) (show 101 < 572 by decide) dX3_spare_1 (fun _ => rfl) ?_
  refine g_aload_n 0 dX3_spare_4 rfl ?_
  refine r_get (.int (v.1 101 1)) f_X3_18_X3 rfl (by decide : kd 101 = (0, 2)) (show 101 < 572 by decide) dX3_spare_5 (fun _ => rfl) ?_
  refine g_aload_n 0 dX3_spare_8 rfl ?_
  refine r_get (.int (v.1 101 2)) f_X3_22_X3 rfl (by decide : kd 101 = (0, 2)) (show 101 < 572 by decide) dX3_spare_9 (fun _ => rfl) ?_
  refine g_iadd dX3_spare_12 ?_
  refine g_bipush dX3_spare_13 (9 : Int32) (by decide) ?_
  obtain ⟨h1, hp⟩ := hp
  refine g_callS (rest := [.ref (gX E + 102)]) s_X3_25 rfl (c_J9_floorMod_7cf53 (E := E) (d := d - 1)   (by omega) ((v.1 101 1) + (v.1 101 2)) (9 : Int32) v h1) rfl rfl (Nat.le_of_ble_eq_true rfl) (by omega) (by decide) (by decide) dX3_spare_15 (adV ?_) axN
  obtain ⟨h2, hp⟩ := hp
  refine r_aaldB h2 dX3_spare_18 ?_
  exact g_aret rfl dX3_spare_19 hQ
def f_X3_spare   (v : gV) : Nat := f_X3_spare_0  v
def p_X3_spare   (v : gV) : Prop := p_X3_spare_0  v
theorem c_X3_spare {E : gE} {d : Nat}   (hd : 1 ≤ d)  (v : gV) (hp : p_X3_spare  v) : CT E m_X3_spare d 0 0 [.ref (gX E + 101)] (rS v) (Cq (.inl (some (.ref (gX E + (f_X3_spare  v))))) v) := CT.of ok_X3_spare rfl (Nat.le_of_ble_eq_true rfl) (w_X3_spare_0  hd  v hp ⟨rfl, rfl⟩)
theorem b_X3_spare    (v : gV) (hp : p_X3_spare  v) : isBk (f_X3_spare  v) := by first | exact isBk_r hp.1 | exact isBk_r hp.2.1
def f_X3_keep_37   (v : gV) : gV := v
def p_X3_keep_37   (v : gV) : Prop := True
set_option maxHeartbeats 4000000 in
set_option maxRecDepth 100000 in
theorem w_X3_keep_37 {E : gE} {d : Nat} {Q : gO → gS → Prop}   (hd : 1 ≤ d)  (v : gV) (hp : p_X3_keep_37    v) (hQ : gqV Q (f_X3_keep_37   v)) : gG E m_X3_keep d Q 0 0 (rS v) 37 [] [] := by
  exact g_vret rfl dX3_keep_37 hQ
def f_X3_keep_19   (v : gV) : gV := f_X3_keep_37   v
def p_X3_keep_19   (v : gV) : Prop := p_X3_keep_37    v
set_option maxHeartbeats 4000000 in
set_option maxRecDepth 100000 in
theorem w_X3_keep_19 {E : gE} {d : Nat} {Q : gO → gS → Prop}   (hd : 1 ≤ d)  (v : gV) (hp : p_X3_keep_19    v) (hQ : gqV Q (f_X3_keep_19   v)) : gG E m_X3_keep d Q 0 0 (rS v) 19 [] [] := by
  refine g_goto 37 dX3_keep_19 (by decide) ?_
  exact w_X3_keep_37  hd     v hp hQ
def f_X3_keep_0   (v : gV) : gV := if (8 : Int32) ≤ (v.1 101 2) then (f_X3_keep_37   (vM v 101 1 (f_J9_floorMod_7cf53 ((v.1 101 1) + (1 : Int32)) (9 : Int32) v))) else (f_X3_keep_19   (vM v 101 2 ((v.1 101 2) + (1 : Int32))))
def p_X3_keep_0   (v : gV) : Prop := (((8 : Int32) ≤ (v.1 101 2)) → ((p_J9_floorMod_7cf53 ((v.1 101 1) + (1 : Int32)) (9 : Int32) v) ∧ (p_X3_keep_37    (vM v 101 1 (f_J9_floorMod_7cf53 ((v.1 101 1) + (1 : Int32)) (9 : Int32) v))))) ∧ (¬ ((8 : Int32) ≤ (v.1 101 2)) → (p_X3_keep_19    (vM v 101 2 ((v.1 101 2) + (1 : Int32)))))
set_option maxHeartbeats 4000000 in
set_option maxRecDepth 100000 in
theorem w_X3_keep_0 {E : gE} {d : Nat} {Q : gO → gS → Prop}   (hd : 1 ≤ d)  (v : gV) (hp : p_X3_keep_0    v) (hQ : gqV Q (f_X3_keep_0   v)) : gG E m_X3_keep d Q 0 0 (rS v) 0 [(0, .ref (gX E + 101))] [] := by
  refine g_aload_n 0 dX3_keep_0 rfl ?_
  refine r_get (.int (v.1 101 2)) f_X3_22_X3 rfl (by decide : kd 101 = (0, 2)) (show 101 < 572 by decide) dX3_keep_1 (fun _ => rfl) ?_
  refine g_bipush dX3_keep_4 (8 : Int32) (by decide) ?_
  refine g_icmp_ge 22 dX3_keep_6 (by decide) (fun h1 => ?_) (fun h1 => ?_)
  · have hQ := qp (P := gqV Q) h1 hQ
    have hp := hp.1 h1
    refine g_aload_n 0 dX3_keep_22 rfl ?_
    refine g_aload_n 0 dX3_keep_23 rfl ?_
    refine r_get (.int (v.1 101 1)) f_X3_18_X3 rfl (by decide : kd 101 = (0, 2)) (show 101 < 572 by decide) dX3_keep_24 (fun _ => rfl) ?_
    refine g_iconst dX3_keep_27 (1 : Int32) (by decide) ?_
    refine g_iadd dX3_keep_28 ?_
    refine g_bipush dX3_keep_29 (9 : Int32) (by decide) ?_
    obtain ⟨h2, hp⟩ := hp
    refine g_callS (rest := [.ref (gX E + 101)]) s_X3_25 rfl (c_J9_floorMod_7cf53 (E := E) (d := d - 1)   (by omega) ((v.1 101 1) + (1 : Int32)) (9 : Int32) v h2) rfl rfl (Nat.le_of_ble_eq_true rfl) (by omega) (by decide) (by decide) dX3_keep_31 (adV ?_) axN
    refine r_put pf_X3_18_X3 rfl (by decide : kd 101 = (0, 2)) (by decide) (by decide) rfl (show 101 < 572 by decide) rfl rfl dX3_keep_34 ?_
    refine g_lv (lv' := []) [] rfl ?_
    exact w_X3_keep_37  hd     (vM v 101 1 (f_J9_floorMod_7cf53 ((v.1 101 1) + (1 : Int32)) (9 : Int32) v)) hp hQ
  · have hQ := qn (P := gqV Q) h1 hQ
    have hp := hp.2 h1
    refine g_aload_n 0 dX3_keep_9 rfl ?_
    refine g_dup dX3_keep_10 rfl ?_
    refine r_get (.int (v.1 101 2)) f_X3_22_X3 rfl (by decide : kd 101 = (0, 2)) (show 101 < 572 by decide) dX3_keep_11 (fun _ => rfl) ?_
    refine g_iconst dX3_keep_14 (1 : Int32) (by decide) ?_
    refine g_iadd dX3_keep_15 ?_
    refine r_put pf_X3_22_X3 rfl (by decide : kd 101 = (0, 2)) (by decide) (by decide) rfl (show 101 < 572 by decide) rfl rfl dX3_keep_16 ?_
    refine g_lv (lv' := []) [] rfl ?_
    exact w_X3_keep_19  hd     (vM v 101 2 ((v.1 101 2) + (1 : Int32))) hp hQ
def f_X3_keep   (v : gV) : gV := f_X3_keep_0  v
def p_X3_keep   (v : gV) : Prop := p_X3_keep_0  v
theorem c_X3_keep {E : gE} {d : Nat}   (hd : 1 ≤ d)  (v : gV) (hp : p_X3_keep  v) : CT E m_X3_keep d 0 0 [.ref (gX E + 101)] (rS v) (Cq (.inl none) (f_X3_keep  v)) := CT.of ok_X3_keep rfl (Nat.le_of_ble_eq_true rfl) (w_X3_keep_0  hd  v hp ⟨rfl, rfl⟩)
def f_X11_changed_7  (x1 : Int32) (v : gV) : Int32 × gV := (x1, v)
def p_X11_changed_7  (x1 : Int32) (v : gV) : Prop := True
set_option maxHeartbeats 4000000 in
set_option maxRecDepth 100000 in
theorem w_X11_changed_7 {E : gE} {d : Nat} {Q : gO → gS → Prop}   (hd : 2 ≤ d) (x1 : Int32) (v : gV) (hp : p_X11_changed_7   x1 v) (hQ : gqIV Q (f_X11_changed_7  x1 v)) : gG E m_X11_changed d Q 0 0 (rS v) 7 [(1, .int x1)] [] := by
  refine g_iload_n 0 dX11_changed_7 rfl ?_
  exact g_iret rfl dX11_changed_8 hQ
def f_X11_changed_0  (x1 : Int32) (v : gV) : Int32 × gV := f_X11_changed_7  x1 (f_X3_keep  v)
def p_X11_changed_0  (x1 : Int32) (v : gV) : Prop := (p_X3_keep  v) ∧ (p_X11_changed_7   x1 (f_X3_keep  v))
set_option maxHeartbeats 4000000 in
set_option maxRecDepth 100000 in
theorem w_X11_changed_0 {E : gE} {d : Nat} {Q : gO → gS → Prop}   (hd : 2 ≤ d) (x1 : Int32) (v : gV) (hp : p_X11_changed_0   x1 v) (hQ : gqIV Q (f_X11_changed_0  x1 v)) : gG E m_X11_changed d Q 0 0 (rS v) 0 [(0, .ref (gX E + 0)), (1, .int x1)] [] := by
  refine g_aload_n 0 dX11_changed_0 rfl ?_
  refine r_get (.ref (gX E + 101)) f_X11_22_X11 rfl (by decide : kd 0 = (0, 8)) (show 0 < 572 by decide) dX11_changed_1 (fun _ => rfl) ?_
  obtain ⟨h1, hp⟩ := hp
  refine g_callV (rest := []) s_X11_344_X3 rfl (c_X3_keep (E := E) (d := d - 1)   (by omega)  v h1) (by decide : kd 101 = (0, 2)) (show 101 < 572 by decide) rfl rfl (Nat.le_of_ble_eq_true rfl) (by omega) (by decide) (by decide) dX11_changed_4 (adN ?_) axN
  refine g_lv (lv' := [(1, .int x1)]) [1] rfl ?_
  exact w_X11_changed_7  hd    x1 (f_X3_keep  v) hp hQ
def f_X11_changed  (x1 : Int32) (v : gV) : Int32 × gV := f_X11_changed_0 x1 v
def p_X11_changed  (x1 : Int32) (v : gV) : Prop := p_X11_changed_0 x1 v
theorem c_X11_changed {E : gE} {d : Nat}   (hd : 2 ≤ d) (x1 : Int32) (v : gV) (hp : p_X11_changed x1 v) : CT E m_X11_changed d 0 0 [.ref (gX E + 0), .int x1] (rS v) (Cq (.inl (some (.int ((f_X11_changed x1 v).1)))) (f_X11_changed x1 v).2) := CT.of ok_X11_changed rfl (Nat.le_of_ble_eq_true rfl) (w_X11_changed_0  hd x1 v hp ⟨rfl, rfl⟩)
def f_X12_cover_84  (s0 : Int32) (v : gV) : Int32 × gV := (s0, v)
def p_X12_cover_84  (s0 : Int32) (v : gV) : Prop := True
set_option maxHeartbeats 4000000 in
set_option maxRecDepth 100000 in
theorem w_X12_cover_84 {E : gE} {d : Nat} {Q : gO → gS → Prop}   (hd : 3 ≤ d) (s0 : Int32) (v : gV) (hp : p_X12_cover_84   s0 v) (hQ : gqIV Q (f_X12_cover_84  s0 v)) : gG E m_X12_cover d Q 0 0 (rS v) 84 [] [.int s0] := by
  exact g_iret rfl dX12_cover_84 hQ
def f_X12_cover_80  (s0 : Int32) (v : gV) : Int32 × gV := f_X12_cover_84  s0 v
def p_X12_cover_80  (s0 : Int32) (v : gV) : Prop := p_X12_cover_84   s0 v
set_option maxHeartbeats 4000000 in
set_option maxRecDepth 100000 in
theorem w_X12_cover_80 {E : gE} {d : Nat} {Q : gO → gS → Prop}   (hd : 3 ≤ d) (s0 : Int32) (v : gV) (hp : p_X12_cover_80   s0 v) (hQ : gqIV Q (f_X12_cover_80  s0 v)) : gG E m_X12_cover d Q 0 0 (rS v) 80 [] [.int s0] := by
  refine g_goto 84 dX12_cover_80 (by decide) ?_
  exact w_X12_cover_84  hd    s0 v hp hQ
def f_X12_cover_62  (K21 : Int32 → Int32 → Int32 → Int32 → gV → Int32 × gV)  (x1 : Int32) (x2 : Int32) (x3 : Int32) (x4 : Int32) (v : gV) : Int32 × gV := K21 x1 x2 x3 (x4 + 1) v
def p_X12_cover_62  (K21 : Int32 → Int32 → Int32 → Int32 → gV → Int32 × gV)  (PK21 : Int32 → Int32 → Int32 → Int32 → gV → Prop)  (x1 : Int32) (x2 : Int32) (x3 : Int32) (x4 : Int32) (v : gV) : Prop := PK21 x1 x2 x3 (x4 + 1) v
set_option maxHeartbeats 4000000 in
set_option maxRecDepth 100000 in
theorem w_X12_cover_62 {E : gE} {d : Nat} {Q : gO → gS → Prop}   (hd : 3 ≤ d) (K21 : Int32 → Int32 → Int32 → Int32 → gV → Int32 × gV)  (PK21 : Int32 → Int32 → Int32 → Int32 → gV → Prop)  (hK21 : ∀ (x1 : Int32) (x2 : Int32) (x3 : Int32) (x4 : Int32) (v : gV), PK21 x1 x2 x3 x4 v → gqIV Q (K21 x1 x2 x3 x4 v) → gG E m_X12_cover d Q 0 0 (rS v) 21 [(0, .ref (gX E + 559)), (1, .int x1), (2, .int x2), (3, .int x3), (4, .int x4)] [])  (x1 : Int32) (x2 : Int32) (x3 : Int32) (x4 : Int32) (v : gV) (hp : p_X12_cover_62 K21 PK21 x1 x2 x3 x4 v) (hQ : gqIV Q (f_X12_cover_62 K21 x1 x2 x3 x4 v)) : gG E m_X12_cover d Q 0 0 (rS v) 62 [(0, .ref (gX E + 559)), (1, .int x1), (2, .int x2), (3, .int x3), (4, .int x4)] [] := by
  refine g_iinc 4 (x4 + 1) [(4, .int (x4 + 1)), (0, .ref (gX E + 559)), (1, .int x1), (2, .int x2), (3, .int x3)] dX12_cover_62 rfl rfl (by decide) rfl ?_
  refine g_goto 21 dX12_cover_65 (by decide) ?_
  refine g_lv (lv' := [(0, .ref (gX E + 559)), (1, .int x1), (2, .int x2), (3, .int x3), (4, .int (x4 + 1))]) [1, 2, 3, 4, 0] rfl ?_
  exact hK21 x1 x2 x3 (x4 + 1) v hp hQ
def f_X12_cover_21  : Nat → Int32 → Int32 → Int32 → Int32 → gV → Int32 × gV
  | 0, _, _, _, _, v => (0, v)
  | n + 1, x1, x2, x3, x4, v => if ((1 : Int32) <<< ((v.1 560 (3 : Int32).toNatClampNeg) &&& 31)) ≤ x4 then (if x3 = (1000000 : Int32) then (f_X12_cover_80  ((f_X12_fail (2 : Int32) v).1) (f_X12_fail (2 : Int32) v).2) else (f_X12_cover_84  x3 v)) else (if x3 ≤ (f_X12_priceOf x4 v) then (f_X12_cover_62 (fun x1 x2 x3 x4 v => f_X12_cover_21  n x1 x2 x3 x4 v) x1 x2 x3 x4 v) else (if (f_X12_areCovered x4 x1 x2 v) = 0 then (f_X12_cover_62 (fun x1 x2 x3 x4 v => f_X12_cover_21  n x1 x2 x3 x4 v) x1 x2 x3 x4 v) else (f_X12_cover_62 (fun x1 x2 x3 x4 v => f_X12_cover_21  n x1 x2 x3 x4 v) x1 x2 (f_X12_priceOf x4 v) x4 v)))
def p_X12_cover_21  : Nat → Int32 → Int32 → Int32 → Int32 → gV → Prop
  | 0, _, _, _, _, _ => False
  | n + 1, x1, x2, x3, x4, v => ((((1 : Int32) <<< ((v.1 560 (3 : Int32).toNatClampNeg) &&& 31)) ≤ x4) → (((x3 = (1000000 : Int32)) → ((p_X12_fail (2 : Int32) v) ∧ (p_X12_cover_80   ((f_X12_fail (2 : Int32) v).1) (f_X12_fail (2 : Int32) v).2))) ∧ (¬ (x3 = (1000000 : Int32)) → (p_X12_cover_84   x3 v)))) ∧ (¬ (((1 : Int32) <<< ((v.1 560 (3 : Int32).toNatClampNeg) &&& 31)) ≤ x4) → ((p_X12_priceOf x4 v) ∧ (((x3 ≤ (f_X12_priceOf x4 v)) → (p_X12_cover_62 (fun x1 x2 x3 x4 v => f_X12_cover_21  n x1 x2 x3 x4 v) (fun x1 x2 x3 x4 v => p_X12_cover_21   n x1 x2 x3 x4 v) x1 x2 x3 x4 v)) ∧ (¬ (x3 ≤ (f_X12_priceOf x4 v)) → ((p_X12_areCovered x4 x1 x2 v) ∧ ((((f_X12_areCovered x4 x1 x2 v) = 0) → (p_X12_cover_62 (fun x1 x2 x3 x4 v => f_X12_cover_21  n x1 x2 x3 x4 v) (fun x1 x2 x3 x4 v => p_X12_cover_21   n x1 x2 x3 x4 v) x1 x2 x3 x4 v)) ∧ (¬ ((f_X12_areCovered x4 x1 x2 v) = 0) → ((p_X12_priceOf x4 v) ∧ (p_X12_cover_62 (fun x1 x2 x3 x4 v => f_X12_cover_21  n x1 x2 x3 x4 v) (fun x1 x2 x3 x4 v => p_X12_cover_21   n x1 x2 x3 x4 v) x1 x2 (f_X12_priceOf x4 v) x4 v)))))))))
set_option maxHeartbeats 4000000 in
set_option maxRecDepth 100000 in
theorem w_X12_cover_21 {E : gE} {d : Nat} {Q : gO → gS → Prop}   (hd : 3 ≤ d) : ∀ (n : Nat) (x1 : Int32) (x2 : Int32) (x3 : Int32) (x4 : Int32) (v : gV), p_X12_cover_21   n x1 x2 x3 x4 v → gqIV Q (f_X12_cover_21  n x1 x2 x3 x4 v) → gG E m_X12_cover d Q 0 0 (rS v) 21 [(0, .ref (gX E + 559)), (1, .int x1), (2, .int x2), (3, .int x3), (4, .int x4)] [] := by
  intro n
  induction n with
  | zero => intro x1 x2 x3 x4 v hp; exact hp.elim
  | succ n ih =>
    intro x1 x2 x3 x4 v hp hQ
    refine g_iload 4 dX12_cover_21 rfl ?_
    refine g_iconst dX12_cover_23 (1 : Int32) (by decide) ?_
    refine g_aload_n 0 dX12_cover_24 rfl ?_
    refine r_get (.ref (gX E + 560)) f_X12_7_X12 rfl (by decide : kd 559 = (0, 9)) (show 559 < 572 by decide) dX12_cover_25 (fun _ => rfl) ?_
    refine g_iconst dX12_cover_28 (3 : Int32) (by decide) ?_
    refine g_iald (by decide : kd 560 = (1, 300)) (show 560 < 572 by decide) (show ¬ (_ ∨ _) by decide) dX12_cover_29 ?_
    refine g_ishl dX12_cover_30 ?_
    refine g_icmp_ge 68 dX12_cover_31 (by decide) (fun h4 => ?_) (fun h4 => ?_)
    · have hQ := qp (P := gqIV Q) h4 hQ
      have hp := hp.1 h4
      refine g_iload_n 3 dX12_cover_68 rfl ?_
      refine r_ldcw (1000000 : Int32) k_X12_260 rfl dX12_cover_69 ?_
      refine g_icmp_ne 83 dX12_cover_72 (by decide) (fun h5 => ?_) (fun h5 => ?_)
      · have hQ := qn (P := gqIV Q) h5 hQ
        have hp := hp.2 h5
        refine g_iload_n 3 dX12_cover_83 rfl ?_
        refine g_lv (lv' := []) [] rfl ?_
        exact w_X12_cover_84  hd    x3 v hp hQ
      · have hQ := qp (P := gqIV Q) h5 hQ
        have hp := hp.1 h5
        refine g_aload_n 0 dX12_cover_75 rfl ?_
        refine g_iconst dX12_cover_76 (2 : Int32) (by decide) ?_
        obtain ⟨h6, hp⟩ := hp
        refine g_callV (rest := []) s_X12_94_X12 rfl (c_X12_fail (E := E) (d := d - 1)   (by omega) (2 : Int32) v h6) (by decide : kd 559 = (0, 9)) (show 559 < 572 by decide) rfl rfl (Nat.le_of_ble_eq_true rfl) (by omega) (by decide) (by decide) dX12_cover_77 (adV ?_) axN
        refine g_lv (lv' := []) [] rfl ?_
        exact w_X12_cover_80  hd    ((f_X12_fail (2 : Int32) v).1) (f_X12_fail (2 : Int32) v).2 hp hQ
    · have hQ := qn (P := gqIV Q) h4 hQ
      have hp := hp.2 h4
      refine g_aload_n 0 dX12_cover_34 rfl ?_
      refine g_iload 4 dX12_cover_35 rfl ?_
      obtain ⟨h7, hp⟩ := hp
      refine g_callV (rest := []) s_X12_261_X12 rfl (c_X12_priceOf (E := E) (d := d - 1)   (by omega) x4 v h7) (by decide : kd 559 = (0, 9)) (show 559 < 572 by decide) rfl rfl (Nat.le_of_ble_eq_true rfl) (by omega) (by decide) (by decide) dX12_cover_37 (adV ?_) axN
      refine g_iload_n 3 dX12_cover_40 rfl ?_
      refine g_icmp_ge 62 dX12_cover_41 (by decide) (fun h8 => ?_) (fun h8 => ?_)
      · have hQ := qp (P := gqIV Q) h8 hQ
        have hp := hp.1 h8
        exact w_X12_cover_62  hd (fun x1 x2 x3 x4 v => f_X12_cover_21  n x1 x2 x3 x4 v) (fun x1 x2 x3 x4 v => p_X12_cover_21   n x1 x2 x3 x4 v) ih x1 x2 x3 x4 v hp hQ
      · have hQ := qn (P := gqIV Q) h8 hQ
        have hp := hp.2 h8
        refine g_aload_n 0 dX12_cover_44 rfl ?_
        refine g_iload 4 dX12_cover_45 rfl ?_
        refine g_iload_n 1 dX12_cover_47 rfl ?_
        refine g_iload_n 2 dX12_cover_48 rfl ?_
        obtain ⟨h9, hp⟩ := hp
        refine g_callV (rest := []) s_X12_264_X12 rfl (c_X12_areCovered (E := E) (d := d - 1)   (by omega) x4 x1 x2 v h9) (by decide : kd 559 = (0, 9)) (show 559 < 572 by decide) rfl rfl (Nat.le_of_ble_eq_true rfl) (by omega) (by decide) (by decide) dX12_cover_49 (adV ?_) axN
        refine g_if_eq 62 dX12_cover_52 (by decide) (fun h10 => ?_) (fun h10 => ?_)
        · have hQ := qp (P := gqIV Q) h10 hQ
          have hp := hp.1 h10
          exact w_X12_cover_62  hd (fun x1 x2 x3 x4 v => f_X12_cover_21  n x1 x2 x3 x4 v) (fun x1 x2 x3 x4 v => p_X12_cover_21   n x1 x2 x3 x4 v) ih x1 x2 x3 x4 v hp hQ
        · have hQ := qn (P := gqIV Q) h10 hQ
          have hp := hp.2 h10
          refine g_aload_n 0 dX12_cover_55 rfl ?_
          refine g_iload 4 dX12_cover_56 rfl ?_
          obtain ⟨h11, hp⟩ := hp
          refine g_callV (rest := []) s_X12_261_X12 rfl (c_X12_priceOf (E := E) (d := d - 1)   (by omega) x4 v h11) (by decide : kd 559 = (0, 9)) (show 559 < 572 by decide) rfl rfl (Nat.le_of_ble_eq_true rfl) (by omega) (by decide) (by decide) dX12_cover_58 (adV ?_) axN
          refine g_istore_n [(3, .int ((f_X12_priceOf x4 v))), (0, .ref (gX E + 559)), (1, .int x1), (2, .int x2), (4, .int x4)] dX12_cover_61 rfl (by decide) rfl ?_
          refine g_lv (lv' := [(0, .ref (gX E + 559)), (1, .int x1), (2, .int x2), (3, .int ((f_X12_priceOf x4 v))), (4, .int x4)]) [1, 2, 3, 0, 4] rfl ?_
          exact w_X12_cover_62  hd (fun x1 x2 x3 x4 v => f_X12_cover_21  n x1 x2 x3 x4 v) (fun x1 x2 x3 x4 v => p_X12_cover_21   n x1 x2 x3 x4 v) ih x1 x2 (f_X12_priceOf x4 v) x4 v hp hQ
def f_X12_cover_9  (x1 : Int32) (x2 : Int32) (s0 : Int32) (v : gV) : Int32 × gV := if s0 ≤ 0 then (f_X12_cover_21  5000 x1 x2 (1000000 : Int32) (1 : Int32) v) else (((0 : Int32), v))
def p_X12_cover_9  (x1 : Int32) (x2 : Int32) (s0 : Int32) (v : gV) : Prop := ((s0 ≤ 0) → (p_X12_cover_21   5000 x1 x2 (1000000 : Int32) (1 : Int32) v)) ∧ (¬ (s0 ≤ 0) → (True))
set_option maxHeartbeats 4000000 in
set_option maxRecDepth 100000 in
theorem w_X12_cover_9 {E : gE} {d : Nat} {Q : gO → gS → Prop}   (hd : 3 ≤ d) (x1 : Int32) (x2 : Int32) (s0 : Int32) (v : gV) (hp : p_X12_cover_9   x1 x2 s0 v) (hQ : gqIV Q (f_X12_cover_9  x1 x2 s0 v)) : gG E m_X12_cover d Q 0 0 (rS v) 9 [(0, .ref (gX E + 559)), (1, .int x1), (2, .int x2)] [.int s0] := by
  refine g_if_le 14 dX12_cover_9 (by decide) (fun h3 => ?_) (fun h3 => ?_)
  · have hQ := qp (P := gqIV Q) h3 hQ
    have hp := hp.1 h3
    refine r_ldcw (1000000 : Int32) k_X12_260 rfl dX12_cover_14 ?_
    refine g_istore_n [(3, .int ((1000000 : Int32))), (0, .ref (gX E + 559)), (1, .int x1), (2, .int x2)] dX12_cover_17 rfl (by decide) rfl ?_
    refine g_iconst dX12_cover_18 (1 : Int32) (by decide) ?_
    refine g_istore [(4, .int ((1 : Int32))), (3, .int ((1000000 : Int32))), (0, .ref (gX E + 559)), (1, .int x1), (2, .int x2)] dX12_cover_19 (by decide) rfl ?_
    refine g_lv (lv' := [(0, .ref (gX E + 559)), (1, .int x1), (2, .int x2), (3, .int ((1000000 : Int32))), (4, .int ((1 : Int32)))]) [2, 3, 4, 1, 0] rfl ?_
    exact w_X12_cover_21  hd    5000 x1 x2 (1000000 : Int32) (1 : Int32) v hp hQ
  · have hQ := qn (P := gqIV Q) h3 hQ
    have hp := hp.2 h3
    refine g_iconst dX12_cover_12 (0 : Int32) (by decide) ?_
    exact g_iret rfl dX12_cover_13 hQ
def f_X12_cover_0  (x1 : Int32) (x2 : Int32) (v : gV) : Int32 × gV := f_X12_cover_9  x1 x2 ((f_X12_checked (f_X12_areDays x1 x2 v) v).1) (f_X12_checked (f_X12_areDays x1 x2 v) v).2
def p_X12_cover_0  (x1 : Int32) (x2 : Int32) (v : gV) : Prop := (p_X12_areDays x1 x2 v) ∧ ((p_X12_checked (f_X12_areDays x1 x2 v) v) ∧ (p_X12_cover_9   x1 x2 ((f_X12_checked (f_X12_areDays x1 x2 v) v).1) (f_X12_checked (f_X12_areDays x1 x2 v) v).2))
set_option maxHeartbeats 4000000 in
set_option maxRecDepth 100000 in
theorem w_X12_cover_0 {E : gE} {d : Nat} {Q : gO → gS → Prop}   (hd : 3 ≤ d) (x1 : Int32) (x2 : Int32) (v : gV) (hp : p_X12_cover_0   x1 x2 v) (hQ : gqIV Q (f_X12_cover_0  x1 x2 v)) : gG E m_X12_cover d Q 0 0 (rS v) 0 [(0, .ref (gX E + 559)), (1, .int x1), (2, .int x2)] [] := by
  refine g_aload_n 0 dX12_cover_0 rfl ?_
  refine g_iload_n 1 dX12_cover_1 rfl ?_
  refine g_iload_n 2 dX12_cover_2 rfl ?_
  obtain ⟨h1, hp⟩ := hp
  refine g_callS (rest := [.ref (gX E + 559)]) s_X12_191 rfl (c_X12_areDays (E := E) (d := d - 1)   (by omega) x1 x2 v h1) rfl rfl (Nat.le_of_ble_eq_true rfl) (by omega) (by decide) (by decide) dX12_cover_3 (adV ?_) axN
  obtain ⟨h2, hp⟩ := hp
  refine g_callV (rest := []) s_X12_213_X12 rfl (c_X12_checked (E := E) (d := d - 1)   (by omega) (f_X12_areDays x1 x2 v) v h2) (by decide : kd 559 = (0, 9)) (show 559 < 572 by decide) rfl rfl (Nat.le_of_ble_eq_true rfl) (by omega) (by decide) (by decide) dX12_cover_6 (adV ?_) axN
  exact w_X12_cover_9  hd    x1 x2 ((f_X12_checked (f_X12_areDays x1 x2 v) v).1) (f_X12_checked (f_X12_areDays x1 x2 v) v).2 hp hQ
def f_X12_cover  (x1 : Int32) (x2 : Int32) (v : gV) : Int32 × gV := f_X12_cover_0 x1 x2 v
def p_X12_cover  (x1 : Int32) (x2 : Int32) (v : gV) : Prop := p_X12_cover_0 x1 x2 v
theorem c_X12_cover {E : gE} {d : Nat}   (hd : 3 ≤ d) (x1 : Int32) (x2 : Int32) (v : gV) (hp : p_X12_cover x1 x2 v) : CT E m_X12_cover d 0 0 [.ref (gX E + 559), .int x1, .int x2] (rS v) (Cq (.inl (some (.int ((f_X12_cover x1 x2 v).1)))) (f_X12_cover x1 x2 v).2) := CT.of ok_X12_cover rfl (Nat.le_of_ble_eq_true rfl) (w_X12_cover_0  hd x1 x2 v hp ⟨rfl, rfl⟩)
def f_X12_cheapestCover_6  (s0 : Int32) (v : gV) : Int32 × gV := (s0, v)
def p_X12_cheapestCover_6  (s0 : Int32) (v : gV) : Prop := True
set_option maxHeartbeats 4000000 in
set_option maxRecDepth 100000 in
theorem w_X12_cheapestCover_6 {E : gE} {d : Nat} {Q : gO → gS → Prop}   (hd : 4 ≤ d) (s0 : Int32) (v : gV) (hp : p_X12_cheapestCover_6   s0 v) (hQ : gqIV Q (f_X12_cheapestCover_6  s0 v)) : gG E m_X12_cheapestCover d Q 0 0 (rS v) 6 [] [.int s0] := by
  exact g_iret rfl dX12_cheapestCover_6 hQ
def f_X12_cheapestCover_0  (x1 : Int32) (x2 : Int32) (v : gV) : Int32 × gV := f_X12_cheapestCover_6  ((f_X12_cover x1 x2 v).1) (f_X12_cover x1 x2 v).2
def p_X12_cheapestCover_0  (x1 : Int32) (x2 : Int32) (v : gV) : Prop := (p_X12_cover x1 x2 v) ∧ (p_X12_cheapestCover_6   ((f_X12_cover x1 x2 v).1) (f_X12_cover x1 x2 v).2)
set_option maxHeartbeats 4000000 in
set_option maxRecDepth 100000 in
theorem w_X12_cheapestCover_0 {E : gE} {d : Nat} {Q : gO → gS → Prop}   (hd : 4 ≤ d) (x1 : Int32) (x2 : Int32) (v : gV) (hp : p_X12_cheapestCover_0   x1 x2 v) (hQ : gqIV Q (f_X12_cheapestCover_0  x1 x2 v)) : gG E m_X12_cheapestCover d Q 0 0 (rS v) 0 [(0, .ref (gX E + 559)), (1, .int x1), (2, .int x2)] [] := by
  refine g_aload_n 0 dX12_cheapestCover_0 rfl ?_
  refine g_iload_n 1 dX12_cheapestCover_1 rfl ?_
  refine g_iload_n 2 dX12_cheapestCover_2 rfl ?_
  obtain ⟨h1, hp⟩ := hp
  refine g_callV (rest := []) s_X12_267_X12 rfl (c_X12_cover (E := E) (d := d - 1)   (by omega) x1 x2 v h1) (by decide : kd 559 = (0, 9)) (show 559 < 572 by decide) rfl rfl (Nat.le_of_ble_eq_true rfl) (by omega) (by decide) (by decide) dX12_cheapestCover_3 (adV ?_) axN
  refine g_lv (lv' := []) [] rfl ?_
  exact w_X12_cheapestCover_6  hd    ((f_X12_cover x1 x2 v).1) (f_X12_cover x1 x2 v).2 hp hQ
def f_X12_cheapestCover  (x1 : Int32) (x2 : Int32) (v : gV) : Int32 × gV := f_X12_cheapestCover_0 x1 x2 v
def p_X12_cheapestCover  (x1 : Int32) (x2 : Int32) (v : gV) : Prop := p_X12_cheapestCover_0 x1 x2 v
theorem c_X12_cheapestCover {E : gE} {d : Nat}   (hd : 4 ≤ d) (x1 : Int32) (x2 : Int32) (v : gV) (hp : p_X12_cheapestCover x1 x2 v) : CT E m_X12_cheapestCover d 0 0 [.ref (gX E + 559), .int x1, .int x2] (rS v) (Cq (.inl (some (.int ((f_X12_cheapestCover x1 x2 v).1)))) (f_X12_cheapestCover x1 x2 v).2) := CT.of ok_X12_cheapestCover rfl (Nat.le_of_ble_eq_true rfl) (w_X12_cheapestCover_0  hd x1 x2 v hp ⟨rfl, rfl⟩)
def f_X12_cheapestCoverBySets_6  (s0 : Int32) (v : gV) : Int32 × gV := (s0, v)
def p_X12_cheapestCoverBySets_6  (s0 : Int32) (v : gV) : Prop := True
set_option maxHeartbeats 4000000 in
set_option maxRecDepth 100000 in
theorem w_X12_cheapestCoverBySets_6 {E : gE} {d : Nat} {Q : gO → gS → Prop}   (hd : 4 ≤ d) (s0 : Int32) (v : gV) (hp : p_X12_cheapestCoverBySets_6   s0 v) (hQ : gqIV Q (f_X12_cheapestCoverBySets_6  s0 v)) : gG E m_X12_cheapestCoverBySets d Q 0 0 (rS v) 6 [] [.int s0] := by
  exact g_iret rfl dX12_cheapestCoverBySets_6 hQ
def f_X12_cheapestCoverBySets_0  (x1 : Int32) (x2 : Int32) (v : gV) : Int32 × gV := f_X12_cheapestCoverBySets_6  ((f_X12_cover x1 x2 v).1) (f_X12_cover x1 x2 v).2
def p_X12_cheapestCoverBySets_0  (x1 : Int32) (x2 : Int32) (v : gV) : Prop := (p_X12_cover x1 x2 v) ∧ (p_X12_cheapestCoverBySets_6   ((f_X12_cover x1 x2 v).1) (f_X12_cover x1 x2 v).2)
set_option maxHeartbeats 4000000 in
set_option maxRecDepth 100000 in
theorem w_X12_cheapestCoverBySets_0 {E : gE} {d : Nat} {Q : gO → gS → Prop}   (hd : 4 ≤ d) (x1 : Int32) (x2 : Int32) (v : gV) (hp : p_X12_cheapestCoverBySets_0   x1 x2 v) (hQ : gqIV Q (f_X12_cheapestCoverBySets_0  x1 x2 v)) : gG E m_X12_cheapestCoverBySets d Q 0 0 (rS v) 0 [(0, .ref (gX E + 559)), (1, .int x1), (2, .int x2)] [] := by
  refine g_aload_n 0 dX12_cheapestCoverBySets_0 rfl ?_
  refine g_iload_n 1 dX12_cheapestCoverBySets_1 rfl ?_
  refine g_iload_n 2 dX12_cheapestCoverBySets_2 rfl ?_
  obtain ⟨h1, hp⟩ := hp
  refine g_callV (rest := []) s_X12_267_X12 rfl (c_X12_cover (E := E) (d := d - 1)   (by omega) x1 x2 v h1) (by decide : kd 559 = (0, 9)) (show 559 < 572 by decide) rfl rfl (Nat.le_of_ble_eq_true rfl) (by omega) (by decide) (by decide) dX12_cheapestCoverBySets_3 (adV ?_) axN
  refine g_lv (lv' := []) [] rfl ?_
  exact w_X12_cheapestCoverBySets_6  hd    ((f_X12_cover x1 x2 v).1) (f_X12_cover x1 x2 v).2 hp hQ
def f_X12_cheapestCoverBySets  (x1 : Int32) (x2 : Int32) (v : gV) : Int32 × gV := f_X12_cheapestCoverBySets_0 x1 x2 v
def p_X12_cheapestCoverBySets  (x1 : Int32) (x2 : Int32) (v : gV) : Prop := p_X12_cheapestCoverBySets_0 x1 x2 v
theorem c_X12_cheapestCoverBySets {E : gE} {d : Nat}   (hd : 4 ≤ d) (x1 : Int32) (x2 : Int32) (v : gV) (hp : p_X12_cheapestCoverBySets x1 x2 v) : CT E m_X12_cheapestCoverBySets d 0 0 [.ref (gX E + 559), .int x1, .int x2] (rS v) (Cq (.inl (some (.int ((f_X12_cheapestCoverBySets x1 x2 v).1)))) (f_X12_cheapestCoverBySets x1 x2 v).2) := CT.of ok_X12_cheapestCoverBySets rfl (Nat.le_of_ble_eq_true rfl) (w_X12_cheapestCoverBySets_0  hd x1 x2 v hp ⟨rfl, rfl⟩)
def f_X12_meanSum_27  : Nat → Int32 → Int32 → gV → UInt64 × gV
  | 0, _, _, v => (0, v)
  | n + 1, x1, x2, v => if (v.1 560 (0 : Int32).toNatClampNeg) ≤ x2 then ((FP.ddiv (FP.i2d x1) (FP.i2d (v.1 560 (0 : Int32).toNatClampNeg)), v)) else (f_X12_meanSum_27  n (x1 + (f_X12_p x2 (1 : Int32) v)) (x2 + 1) v)
def p_X12_meanSum_27  : Nat → Int32 → Int32 → gV → Prop
  | 0, _, _, _ => False
  | n + 1, x1, x2, v => (((v.1 560 (0 : Int32).toNatClampNeg) ≤ x2) → ((vf_n64 (FP.ddiv (FP.i2d x1) (FP.i2d (v.1 560 (0 : Int32).toNatClampNeg)))) ∧ (True))) ∧ (¬ ((v.1 560 (0 : Int32).toNatClampNeg) ≤ x2) → ((p_X12_p x2 (1 : Int32) v) ∧ (p_X12_meanSum_27   n (x1 + (f_X12_p x2 (1 : Int32) v)) (x2 + 1) v)))
set_option maxHeartbeats 4000000 in
set_option maxRecDepth 100000 in
theorem w_X12_meanSum_27 {E : gE} {d : Nat} {Q : gO → gS → Prop}   (hd : 1 ≤ d) : ∀ (n : Nat) (x1 : Int32) (x2 : Int32) (v : gV), p_X12_meanSum_27   n x1 x2 v → gqDV Q (f_X12_meanSum_27  n x1 x2 v) → gG E m_X12_meanSum d Q 0 0 (rS v) 27 [(0, .ref (gX E + 559)), (1, .int x1), (2, .int x2)] [] := by
  intro n
  induction n with
  | zero => intro x1 x2 v hp; exact hp.elim
  | succ n ih =>
    intro x1 x2 v hp hQ
    refine g_iload_n 2 dX12_meanSum_27 rfl ?_
    refine g_aload_n 0 dX12_meanSum_28 rfl ?_
    refine r_get (.ref (gX E + 560)) f_X12_7_X12 rfl (by decide : kd 559 = (0, 9)) (show 559 < 572 by decide) dX12_meanSum_29 (fun _ => rfl) ?_
    refine g_iconst dX12_meanSum_32 (0 : Int32) (by decide) ?_
    refine g_iald (by decide : kd 560 = (1, 300)) (show 560 < 572 by decide) (show ¬ (_ ∨ _) by decide) dX12_meanSum_33 ?_
    refine g_icmp_ge 52 dX12_meanSum_34 (by decide) (fun h4 => ?_) (fun h4 => ?_)
    · have hQ := qp (P := gqDV Q) h4 hQ
      have hp := hp.1 h4
      refine g_iload_n 1 dX12_meanSum_52 rfl ?_
      refine g_i2d dX12_meanSum_53 ?_
      refine g_aload_n 0 dX12_meanSum_54 rfl ?_
      refine r_get (.ref (gX E + 560)) f_X12_7_X12 rfl (by decide : kd 559 = (0, 9)) (show 559 < 572 by decide) dX12_meanSum_55 (fun _ => rfl) ?_
      refine g_iconst dX12_meanSum_58 (0 : Int32) (by decide) ?_
      refine g_iald (by decide : kd 560 = (1, 300)) (show 560 < 572 by decide) (show ¬ (_ ∨ _) by decide) dX12_meanSum_59 ?_
      refine g_i2d dX12_meanSum_60 ?_
      obtain ⟨h5, hp⟩ := hp
      refine g_ddiv dX12_meanSum_61 h5 ?_
      exact g_dret rfl dX12_meanSum_62 hQ
    · have hQ := qn (P := gqDV Q) h4 hQ
      have hp := hp.2 h4
      refine g_iload_n 1 dX12_meanSum_37 rfl ?_
      refine g_aload_n 0 dX12_meanSum_38 rfl ?_
      refine g_iload_n 2 dX12_meanSum_39 rfl ?_
      refine g_iconst dX12_meanSum_40 (1 : Int32) (by decide) ?_
      obtain ⟨h6, hp⟩ := hp
      refine g_callV (rest := [.int x1]) s_X12_79_X12 rfl (c_X12_p (E := E) (d := d - 1)   (by omega) x2 (1 : Int32) v h6) (by decide : kd 559 = (0, 9)) (show 559 < 572 by decide) rfl rfl (Nat.le_of_ble_eq_true rfl) (by omega) (by decide) (by decide) dX12_meanSum_41 (adV ?_) axN
      refine g_iadd dX12_meanSum_44 ?_
      refine g_istore_n [(1, .int (x1 + (f_X12_p x2 (1 : Int32) v))), (0, .ref (gX E + 559)), (2, .int x2)] dX12_meanSum_45 rfl (by decide) rfl ?_
      refine g_iinc 2 (x2 + 1) [(2, .int (x2 + 1)), (1, .int (x1 + (f_X12_p x2 (1 : Int32) v))), (0, .ref (gX E + 559))] dX12_meanSum_46 rfl rfl (by decide) rfl ?_
      refine g_goto 27 dX12_meanSum_49 (by decide) ?_
      refine g_lv (lv' := [(0, .ref (gX E + 559)), (1, .int (x1 + (f_X12_p x2 (1 : Int32) v))), (2, .int (x2 + 1))]) [2, 1, 0] rfl ?_
      exact ih (x1 + (f_X12_p x2 (1 : Int32) v)) (x2 + 1) v hp hQ
def f_X12_meanSum_18  (s0 : Int32) (v : gV) : UInt64 × gV := if s0 ≤ 0 then (f_X12_meanSum_27  5000 (0 : Int32) (0 : Int32) v) else ((FP.dconst0, v))
def p_X12_meanSum_18  (s0 : Int32) (v : gV) : Prop := ((s0 ≤ 0) → (p_X12_meanSum_27   5000 (0 : Int32) (0 : Int32) v)) ∧ (¬ (s0 ≤ 0) → (True))
set_option maxHeartbeats 4000000 in
set_option maxRecDepth 100000 in
theorem w_X12_meanSum_18 {E : gE} {d : Nat} {Q : gO → gS → Prop}   (hd : 1 ≤ d) (s0 : Int32) (v : gV) (hp : p_X12_meanSum_18   s0 v) (hQ : gqDV Q (f_X12_meanSum_18  s0 v)) : gG E m_X12_meanSum d Q 0 0 (rS v) 18 [(0, .ref (gX E + 559))] [.int s0] := by
  refine g_if_le 23 dX12_meanSum_18 (by decide) (fun h3 => ?_) (fun h3 => ?_)
  · have hQ := qp (P := gqDV Q) h3 hQ
    have hp := hp.1 h3
    refine g_iconst dX12_meanSum_23 (0 : Int32) (by decide) ?_
    refine g_istore_n [(1, .int ((0 : Int32))), (0, .ref (gX E + 559))] dX12_meanSum_24 rfl (by decide) rfl ?_
    refine g_iconst dX12_meanSum_25 (0 : Int32) (by decide) ?_
    refine g_istore_n [(2, .int ((0 : Int32))), (1, .int ((0 : Int32))), (0, .ref (gX E + 559))] dX12_meanSum_26 rfl (by decide) rfl ?_
    refine g_lv (lv' := [(0, .ref (gX E + 559)), (1, .int ((0 : Int32))), (2, .int ((0 : Int32)))]) [2, 1, 0] rfl ?_
    exact w_X12_meanSum_27  hd    5000 (0 : Int32) (0 : Int32) v hp hQ
  · have hQ := qn (P := gqDV Q) h3 hQ
    have hp := hp.2 h3
    refine g_dconst0 dX12_meanSum_21 ?_
    exact g_dret rfl dX12_meanSum_22 hQ
def f_X12_meanSum_15  (s0 : Int32) (v : gV) : UInt64 × gV := f_X12_meanSum_18  ((f_X12_checked s0 v).1) (f_X12_checked s0 v).2
def p_X12_meanSum_15  (s0 : Int32) (v : gV) : Prop := (p_X12_checked s0 v) ∧ (p_X12_meanSum_18   ((f_X12_checked s0 v).1) (f_X12_checked s0 v).2)
set_option maxHeartbeats 4000000 in
set_option maxRecDepth 100000 in
theorem w_X12_meanSum_15 {E : gE} {d : Nat} {Q : gO → gS → Prop}   (hd : 1 ≤ d) (s0 : Int32) (v : gV) (hp : p_X12_meanSum_15   s0 v) (hQ : gqDV Q (f_X12_meanSum_15  s0 v)) : gG E m_X12_meanSum d Q 0 0 (rS v) 15 [(0, .ref (gX E + 559))] [.int s0, .ref (gX E + 559)] := by
  obtain ⟨h2, hp⟩ := hp
  refine g_callV (rest := []) s_X12_213_X12 rfl (c_X12_checked (E := E) (d := d - 1)   (by omega) s0 v h2) (by decide : kd 559 = (0, 9)) (show 559 < 572 by decide) rfl rfl (Nat.le_of_ble_eq_true rfl) (by omega) (by decide) (by decide) dX12_meanSum_15 (adV ?_) axN
  exact w_X12_meanSum_18  hd    ((f_X12_checked s0 v).1) (f_X12_checked s0 v).2 hp hQ
def f_X12_meanSum_0   (v : gV) : UInt64 × gV := if (v.1 560 (0 : Int32).toNatClampNeg) ≤ 0 then (f_X12_meanSum_15  (0 : Int32) v) else (f_X12_meanSum_15  (1 : Int32) v)
def p_X12_meanSum_0   (v : gV) : Prop := (((v.1 560 (0 : Int32).toNatClampNeg) ≤ 0) → (p_X12_meanSum_15   (0 : Int32) v)) ∧ (¬ ((v.1 560 (0 : Int32).toNatClampNeg) ≤ 0) → (p_X12_meanSum_15   (1 : Int32) v))
set_option maxHeartbeats 4000000 in
set_option maxRecDepth 100000 in
theorem w_X12_meanSum_0 {E : gE} {d : Nat} {Q : gO → gS → Prop}   (hd : 1 ≤ d)  (v : gV) (hp : p_X12_meanSum_0    v) (hQ : gqDV Q (f_X12_meanSum_0   v)) : gG E m_X12_meanSum d Q 0 0 (rS v) 0 [(0, .ref (gX E + 559))] [] := by
  refine g_aload_n 0 dX12_meanSum_0 rfl ?_
  refine g_aload_n 0 dX12_meanSum_1 rfl ?_
  refine r_get (.ref (gX E + 560)) f_X12_7_X12 rfl (by decide : kd 559 = (0, 9)) (show 559 < 572 by decide) dX12_meanSum_2 (fun _ => rfl) ?_
  refine g_iconst dX12_meanSum_5 (0 : Int32) (by decide) ?_
  refine g_iald (by decide : kd 560 = (1, 300)) (show 560 < 572 by decide) (show ¬ (_ ∨ _) by decide) dX12_meanSum_6 ?_
  refine g_if_le 14 dX12_meanSum_7 (by decide) (fun h1 => ?_) (fun h1 => ?_)
  · have hQ := qp (P := gqDV Q) h1 hQ
    have hp := hp.1 h1
    refine g_iconst dX12_meanSum_14 (0 : Int32) (by decide) ?_
    exact w_X12_meanSum_15  hd    (0 : Int32) v hp hQ
  · have hQ := qn (P := gqDV Q) h1 hQ
    have hp := hp.2 h1
    refine g_iconst dX12_meanSum_10 (1 : Int32) (by decide) ?_
    refine g_goto 15 dX12_meanSum_11 (by decide) ?_
    exact w_X12_meanSum_15  hd    (1 : Int32) v hp hQ
def f_X12_meanSum   (v : gV) : UInt64 × gV := f_X12_meanSum_0  v
def p_X12_meanSum   (v : gV) : Prop := p_X12_meanSum_0  v
theorem c_X12_meanSum {E : gE} {d : Nat}   (hd : 1 ≤ d)  (v : gV) (hp : p_X12_meanSum  v) : CT E m_X12_meanSum d 0 0 [.ref (gX E + 559)] (rS v) (Cq (.inl (some (.double ((f_X12_meanSum  v).1)))) (f_X12_meanSum  v).2) := CT.of ok_X12_meanSum rfl (Nat.le_of_ble_eq_true rfl) (w_X12_meanSum_0  hd  v hp ⟨rfl, rfl⟩)
def f_X12_paidShare_29  : Nat → Int32 → Int32 → Int32 → gV → UInt32 × gV
  | 0, _, _, _, v => (0, v)
  | n + 1, x1, x2, x3, v => if (v.1 560 (1 : Int32).toNatClampNeg) ≤ x3 then ((FP.fdiv (FP.i2f x1) (FP.i2f x2), v)) else (f_X12_paidShare_29  n (x1 + (f_X12_c x3 (4 : Int32) v)) (x2 + (f_X12_c x3 (3 : Int32) v)) (x3 + 1) v)
def p_X12_paidShare_29  : Nat → Int32 → Int32 → Int32 → gV → Prop
  | 0, _, _, _, _ => False
  | n + 1, x1, x2, x3, v => (((v.1 560 (1 : Int32).toNatClampNeg) ≤ x3) → ((vf_n32 (FP.fdiv (FP.i2f x1) (FP.i2f x2))) ∧ (True))) ∧ (¬ ((v.1 560 (1 : Int32).toNatClampNeg) ≤ x3) → ((p_X12_c x3 (4 : Int32) v) ∧ ((p_X12_c x3 (3 : Int32) v) ∧ (p_X12_paidShare_29   n (x1 + (f_X12_c x3 (4 : Int32) v)) (x2 + (f_X12_c x3 (3 : Int32) v)) (x3 + 1) v))))
set_option maxHeartbeats 4000000 in
set_option maxRecDepth 100000 in
theorem w_X12_paidShare_29 {E : gE} {d : Nat} {Q : gO → gS → Prop}   (hd : 1 ≤ d) : ∀ (n : Nat) (x1 : Int32) (x2 : Int32) (x3 : Int32) (v : gV), p_X12_paidShare_29   n x1 x2 x3 v → gqFV Q (f_X12_paidShare_29  n x1 x2 x3 v) → gG E m_X12_paidShare d Q 0 0 (rS v) 29 [(0, .ref (gX E + 559)), (1, .int x1), (2, .int x2), (3, .int x3)] [] := by
  intro n
  induction n with
  | zero => intro x1 x2 x3 v hp; exact hp.elim
  | succ n ih =>
    intro x1 x2 x3 v hp hQ
    refine g_iload_n 3 dX12_paidShare_29 rfl ?_
    refine g_aload_n 0 dX12_paidShare_30 rfl ?_
    refine r_get (.ref (gX E + 560)) f_X12_7_X12 rfl (by decide : kd 559 = (0, 9)) (show 559 < 572 by decide) dX12_paidShare_31 (fun _ => rfl) ?_
    refine g_iconst dX12_paidShare_34 (1 : Int32) (by decide) ?_
    refine g_iald (by decide : kd 560 = (1, 300)) (show 560 < 572 by decide) (show ¬ (_ ∨ _) by decide) dX12_paidShare_35 ?_
    refine g_icmp_ge 63 dX12_paidShare_36 (by decide) (fun h4 => ?_) (fun h4 => ?_)
    · have hQ := qp (P := gqFV Q) h4 hQ
      have hp := hp.1 h4
      refine g_iload_n 1 dX12_paidShare_63 rfl ?_
      refine g_i2f dX12_paidShare_64 ?_
      refine g_iload_n 2 dX12_paidShare_65 rfl ?_
      refine g_i2f dX12_paidShare_66 ?_
      obtain ⟨h5, hp⟩ := hp
      refine g_fdiv dX12_paidShare_67 h5 ?_
      exact g_fret rfl dX12_paidShare_68 hQ
    · have hQ := qn (P := gqFV Q) h4 hQ
      have hp := hp.2 h4
      refine g_iload_n 1 dX12_paidShare_39 rfl ?_
      refine g_aload_n 0 dX12_paidShare_40 rfl ?_
      refine g_iload_n 3 dX12_paidShare_41 rfl ?_
      refine g_iconst dX12_paidShare_42 (4 : Int32) (by decide) ?_
      obtain ⟨h6, hp⟩ := hp
      refine g_callV (rest := [.int x1]) s_X12_104_X12 rfl (c_X12_c (E := E) (d := d - 1)   (by omega) x3 (4 : Int32) v h6) (by decide : kd 559 = (0, 9)) (show 559 < 572 by decide) rfl rfl (Nat.le_of_ble_eq_true rfl) (by omega) (by decide) (by decide) dX12_paidShare_43 (adV ?_) axN
      refine g_iadd dX12_paidShare_46 ?_
      refine g_istore_n [(1, .int (x1 + (f_X12_c x3 (4 : Int32) v))), (0, .ref (gX E + 559)), (2, .int x2), (3, .int x3)] dX12_paidShare_47 rfl (by decide) rfl ?_
      refine g_iload_n 2 dX12_paidShare_48 rfl ?_
      refine g_aload_n 1 dX12_paidShare_49 rfl ?_
      refine g_iload_n 3 dX12_paidShare_50 rfl ?_
      refine g_iconst dX12_paidShare_51 (3 : Int32) (by decide) ?_
      obtain ⟨h7, hp⟩ := hp
      refine g_callV (rest := [.int x2]) s_X12_104_X12 rfl (c_X12_c (E := E) (d := d - 1)   (by omega) x3 (3 : Int32) v h7) (by decide : kd 559 = (0, 9)) (show 559 < 572 by decide) rfl rfl (Nat.le_of_ble_eq_true rfl) (by omega) (by decide) (by decide) dX12_paidShare_52 (adV ?_) axN
      refine g_iadd dX12_paidShare_55 ?_
      refine g_istore_n [(2, .int (x2 + (f_X12_c x3 (3 : Int32) v))), (1, .int (x1 + (f_X12_c x3 (4 : Int32) v))), (0, .ref (gX E + 559)), (3, .int x3)] dX12_paidShare_56 rfl (by decide) rfl ?_
      refine g_iinc 3 (x3 + 1) [(3, .int (x3 + 1)), (2, .int (x2 + (f_X12_c x3 (3 : Int32) v))), (1, .int (x1 + (f_X12_c x3 (4 : Int32) v))), (0, .ref (gX E + 559))] dX12_paidShare_57 rfl rfl (by decide) rfl ?_
      refine g_goto 29 dX12_paidShare_60 (by decide) ?_
      refine g_lv (lv' := [(0, .ref (gX E + 559)), (1, .int (x1 + (f_X12_c x3 (4 : Int32) v))), (2, .int (x2 + (f_X12_c x3 (3 : Int32) v))), (3, .int (x3 + 1))]) [3, 2, 1, 0] rfl ?_
      exact ih (x1 + (f_X12_c x3 (4 : Int32) v)) (x2 + (f_X12_c x3 (3 : Int32) v)) (x3 + 1) v hp hQ
def f_X12_paidShare_18  (s0 : Int32) (v : gV) : UInt32 × gV := if s0 ≤ 0 then (f_X12_paidShare_29  5000 (0 : Int32) (0 : Int32) (0 : Int32) v) else ((FP.fconst0, v))
def p_X12_paidShare_18  (s0 : Int32) (v : gV) : Prop := ((s0 ≤ 0) → (p_X12_paidShare_29   5000 (0 : Int32) (0 : Int32) (0 : Int32) v)) ∧ (¬ (s0 ≤ 0) → (True))
set_option maxHeartbeats 4000000 in
set_option maxRecDepth 100000 in
theorem w_X12_paidShare_18 {E : gE} {d : Nat} {Q : gO → gS → Prop}   (hd : 1 ≤ d) (s0 : Int32) (v : gV) (hp : p_X12_paidShare_18   s0 v) (hQ : gqFV Q (f_X12_paidShare_18  s0 v)) : gG E m_X12_paidShare d Q 0 0 (rS v) 18 [(0, .ref (gX E + 559))] [.int s0] := by
  refine g_if_le 23 dX12_paidShare_18 (by decide) (fun h3 => ?_) (fun h3 => ?_)
  · have hQ := qp (P := gqFV Q) h3 hQ
    have hp := hp.1 h3
    refine g_iconst dX12_paidShare_23 (0 : Int32) (by decide) ?_
    refine g_istore_n [(1, .int ((0 : Int32))), (0, .ref (gX E + 559))] dX12_paidShare_24 rfl (by decide) rfl ?_
    refine g_iconst dX12_paidShare_25 (0 : Int32) (by decide) ?_
    refine g_istore_n [(2, .int ((0 : Int32))), (1, .int ((0 : Int32))), (0, .ref (gX E + 559))] dX12_paidShare_26 rfl (by decide) rfl ?_
    refine g_iconst dX12_paidShare_27 (0 : Int32) (by decide) ?_
    refine g_istore_n [(3, .int ((0 : Int32))), (2, .int ((0 : Int32))), (1, .int ((0 : Int32))), (0, .ref (gX E + 559))] dX12_paidShare_28 rfl (by decide) rfl ?_
    refine g_lv (lv' := [(0, .ref (gX E + 559)), (1, .int ((0 : Int32))), (2, .int ((0 : Int32))), (3, .int ((0 : Int32)))]) [3, 2, 1, 0] rfl ?_
    exact w_X12_paidShare_29  hd    5000 (0 : Int32) (0 : Int32) (0 : Int32) v hp hQ
  · have hQ := qn (P := gqFV Q) h3 hQ
    have hp := hp.2 h3
    refine g_fconst0 dX12_paidShare_21 ?_
    exact g_fret rfl dX12_paidShare_22 hQ
def f_X12_paidShare_15  (s0 : Int32) (v : gV) : UInt32 × gV := f_X12_paidShare_18  ((f_X12_checked s0 v).1) (f_X12_checked s0 v).2
def p_X12_paidShare_15  (s0 : Int32) (v : gV) : Prop := (p_X12_checked s0 v) ∧ (p_X12_paidShare_18   ((f_X12_checked s0 v).1) (f_X12_checked s0 v).2)
set_option maxHeartbeats 4000000 in
set_option maxRecDepth 100000 in
theorem w_X12_paidShare_15 {E : gE} {d : Nat} {Q : gO → gS → Prop}   (hd : 1 ≤ d) (s0 : Int32) (v : gV) (hp : p_X12_paidShare_15   s0 v) (hQ : gqFV Q (f_X12_paidShare_15  s0 v)) : gG E m_X12_paidShare d Q 0 0 (rS v) 15 [(0, .ref (gX E + 559))] [.int s0, .ref (gX E + 559)] := by
  obtain ⟨h2, hp⟩ := hp
  refine g_callV (rest := []) s_X12_213_X12 rfl (c_X12_checked (E := E) (d := d - 1)   (by omega) s0 v h2) (by decide : kd 559 = (0, 9)) (show 559 < 572 by decide) rfl rfl (Nat.le_of_ble_eq_true rfl) (by omega) (by decide) (by decide) dX12_paidShare_15 (adV ?_) axN
  exact w_X12_paidShare_18  hd    ((f_X12_checked s0 v).1) (f_X12_checked s0 v).2 hp hQ
def f_X12_paidShare_0   (v : gV) : UInt32 × gV := if (v.1 560 (1 : Int32).toNatClampNeg) ≤ 0 then (f_X12_paidShare_15  (0 : Int32) v) else (f_X12_paidShare_15  (1 : Int32) v)
def p_X12_paidShare_0   (v : gV) : Prop := (((v.1 560 (1 : Int32).toNatClampNeg) ≤ 0) → (p_X12_paidShare_15   (0 : Int32) v)) ∧ (¬ ((v.1 560 (1 : Int32).toNatClampNeg) ≤ 0) → (p_X12_paidShare_15   (1 : Int32) v))
set_option maxHeartbeats 4000000 in
set_option maxRecDepth 100000 in
theorem w_X12_paidShare_0 {E : gE} {d : Nat} {Q : gO → gS → Prop}   (hd : 1 ≤ d)  (v : gV) (hp : p_X12_paidShare_0    v) (hQ : gqFV Q (f_X12_paidShare_0   v)) : gG E m_X12_paidShare d Q 0 0 (rS v) 0 [(0, .ref (gX E + 559))] [] := by
  refine g_aload_n 0 dX12_paidShare_0 rfl ?_
  refine g_aload_n 0 dX12_paidShare_1 rfl ?_
  refine r_get (.ref (gX E + 560)) f_X12_7_X12 rfl (by decide : kd 559 = (0, 9)) (show 559 < 572 by decide) dX12_paidShare_2 (fun _ => rfl) ?_
  refine g_iconst dX12_paidShare_5 (1 : Int32) (by decide) ?_
  refine g_iald (by decide : kd 560 = (1, 300)) (show 560 < 572 by decide) (show ¬ (_ ∨ _) by decide) dX12_paidShare_6 ?_
  refine g_if_le 14 dX12_paidShare_7 (by decide) (fun h1 => ?_) (fun h1 => ?_)
  · have hQ := qp (P := gqFV Q) h1 hQ
    have hp := hp.1 h1
    refine g_iconst dX12_paidShare_14 (0 : Int32) (by decide) ?_
    exact w_X12_paidShare_15  hd    (0 : Int32) v hp hQ
  · have hQ := qn (P := gqFV Q) h1 hQ
    have hp := hp.2 h1
    refine g_iconst dX12_paidShare_10 (1 : Int32) (by decide) ?_
    refine g_goto 15 dX12_paidShare_11 (by decide) ?_
    exact w_X12_paidShare_15  hd    (1 : Int32) v hp hQ
def f_X12_paidShare   (v : gV) : UInt32 × gV := f_X12_paidShare_0  v
def p_X12_paidShare   (v : gV) : Prop := p_X12_paidShare_0  v
theorem c_X12_paidShare {E : gE} {d : Nat}   (hd : 1 ≤ d)  (v : gV) (hp : p_X12_paidShare  v) : CT E m_X12_paidShare d 0 0 [.ref (gX E + 559)] (rS v) (Cq (.inl (some (.float ((f_X12_paidShare  v).1)))) (f_X12_paidShare  v).2) := CT.of ok_X12_paidShare rfl (Nat.le_of_ble_eq_true rfl) (w_X12_paidShare_0  hd  v hp ⟨rfl, rfl⟩)
def f_X11_borneBy_38  (s0 : Int32) (s1 : Int32) (v : gV) : Int32 ⊕ String := Sum.inl (v.1 (1 + 17 + 1 + (s1).toNatClampNeg) s0.toNatClampNeg)
def p_X11_borneBy_38  (s0 : Int32) (s1 : Int32) (v : gV) : Prop := (vp_in s1 12) ∧ ((vp_in s0 4) ∧ (True))
set_option maxHeartbeats 4000000 in
set_option maxRecDepth 100000 in
theorem w_X11_borneBy_38 {E : gE} {d : Nat} {Q : gO → gS → Prop}   (hd : 8 ≤ d) (s0 : Int32) (s1 : Int32) (v : gV) (hp : p_X11_borneBy_38   s0 s1 v) (hQ : gqTI Q v (f_X11_borneBy_38  s0 s1 v)) : gG E m_X11_borneBy d Q 0 0 (rS v) 38 [] [.int s0, .ref (gX E + (1 + 17 + 1 + (s1).toNatClampNeg))] := by
  obtain ⟨h8, hp⟩ := hp
  obtain ⟨h9, hp⟩ := hp
  refine g_iald (kg_17 isBk_1 h8) (lg_17 isBk_1 h8) h9 dX11_borneBy_38 ?_
  exact g_iret rfl dX11_borneBy_39 hQ
def f_X11_borneBy_11  (x2 : Int32) (s0 : Int32) (v : gV) : Int32 ⊕ String := Sum.elim (fun (sr6 : Int32) => f_X11_borneBy_38  sr6 s0 v) (fun (e : String) => Sum.inr e) (f_X11_checkedIndex x2 (v.1 (1 + 30) 6) v)
def p_X11_borneBy_11  (x2 : Int32) (s0 : Int32) (v : gV) : Prop := (vp_in s0 12) ∧ ((p_X11_checkedIndex x2 (v.1 (1 + 30) 6) v) ∧ (∀ (sr6 : Int32), (f_X11_checkedIndex x2 (v.1 (1 + 30) 6) v) = Sum.inl sr6 → (p_X11_borneBy_38   sr6 s0 v)))
set_option maxHeartbeats 4000000 in
set_option maxRecDepth 100000 in
theorem w_X11_borneBy_11 {E : gE} {d : Nat} {Q : gO → gS → Prop}   (hd : 8 ≤ d) (x2 : Int32) (s0 : Int32) (v : gV) (hp : p_X11_borneBy_11   x2 s0 v) (hQ : gqTI Q v (f_X11_borneBy_11  x2 s0 v)) : gG E m_X11_borneBy d Q 1 6 (rS v) 11 [(0, .ref (gX E + 0)), (2, .int x2)] [.int s0] := by
  refine g_istore_n [(3, .int s0), (0, .ref (gX E + 0)), (2, .int x2)] dX11_borneBy_11 rfl (by decide) rfl ?_
  refine g_aload_n 1 dX11_borneBy_12 rfl ?_
  refine r_get (.ref (gX E + 1)) f_X11_10_X11 rfl (by decide : kd 0 = (0, 8)) (show 0 < 572 by decide) dX11_borneBy_13 (fun _ => rfl) ?_
  refine r_get (.ref (gX E + (1 + 10))) f_X11_146_X1 rfl (kbz isBk_1) (lt_b0 isBk_1) dX11_borneBy_16 (fun _ => rfl) ?_
  refine r_get (.ref (gX E + (1 + 17))) f_X11_167_X2 rfl (kb_10 isBk_1) (lt_b isBk_1 (by decide)) dX11_borneBy_19 (fun _ => rfl) ?_
  refine g_iload_n 0 dX11_borneBy_22 rfl ?_
  obtain ⟨h4, hp⟩ := hp
  refine r_aald (kb_17 isBk_1) (lt_b isBk_1 (by decide)) h4 (by decide) dX11_borneBy_23 ?_
  refine g_iload_n 2 dX11_borneBy_24 rfl ?_
  refine g_aload_n 1 dX11_borneBy_25 rfl ?_
  refine r_get (.ref (gX E + 1)) f_X11_10_X11 rfl (by decide : kd 0 = (0, 8)) (show 0 < 572 by decide) dX11_borneBy_26 (fun _ => rfl) ?_
  refine r_get (.ref (gX E + (1 + 30))) f_X11_171_X1 rfl (kbz isBk_1) (lt_b0 isBk_1) dX11_borneBy_29 (fun _ => rfl) ?_
  refine r_get (.int (v.1 (1 + 30) 6)) f_X11_175_X8 rfl (kb_30 isBk_1) (lt_b isBk_1 (by decide)) dX11_borneBy_32 (fun _ => rfl) ?_
  obtain ⟨h5, hp⟩ := hp
  refine g_callS (rest := [.ref (gX E + (1 + 17 + 1 + (s0).toNatClampNeg))]) s_X11_121 rfl (c_X11_checkedIndex (E := E) (d := d - 1)   (by omega) x2 (v.1 (1 + 30) 6) v h5) rfl rfl (Nat.le_of_ble_eq_true rfl) (by omega) (by decide) (by decide) dX11_borneBy_35 (adTI (fun sr6 h7 => ?_)) (axTI (fun e h7 => g_outs rfl rfl (qe (P := gqTI Q v) h7 hQ)))
  have hQ := ql (P := gqTI Q v) h7 hQ
  have hp := hp sr6 h7
  refine g_lv (lv' := []) [] rfl ?_
  exact w_X11_borneBy_38  hd    sr6 s0 v hp hQ
def f_X11_borneBy_0  (x1 : Int32) (x2 : Int32) (v : gV) : Int32 ⊕ String := Sum.elim (fun (sr2 : Int32) => f_X11_borneBy_11  x2 sr2 v) (fun (e : String) => Sum.inr e) (f_X6_placeOf_C 1 x1 v)
def p_X11_borneBy_0  (x1 : Int32) (x2 : Int32) (v : gV) : Prop := (p_X6_placeOf_C 1 x1 v) ∧ (∀ (sr2 : Int32), (f_X6_placeOf_C 1 x1 v) = Sum.inl sr2 → (p_X11_borneBy_11   x2 sr2 v))
set_option maxHeartbeats 4000000 in
set_option maxRecDepth 100000 in
theorem w_X11_borneBy_0 {E : gE} {d : Nat} {Q : gO → gS → Prop}   (hd : 8 ≤ d) (x1 : Int32) (x2 : Int32) (v : gV) (hp : p_X11_borneBy_0   x1 x2 v) (hQ : gqTI Q v (f_X11_borneBy_0  x1 x2 v)) : gG E m_X11_borneBy d Q 2 12 (rS v) 0 [(0, .ref (gX E + 0)), (1, .int x1), (2, .int x2)] [] := by
  refine g_aload_n 0 dX11_borneBy_0 rfl ?_
  refine r_get (.ref (gX E + 1)) f_X11_10_X11 rfl (by decide : kd 0 = (0, 8)) (show 0 < 572 by decide) dX11_borneBy_1 (fun _ => rfl) ?_
  refine r_get (.ref (gX E + (1 + 10))) f_X11_146_X1 rfl (kbz isBk_1) (lt_b0 isBk_1) dX11_borneBy_4 (fun _ => rfl) ?_
  refine g_iload_n 1 dX11_borneBy_7 rfl ?_
  obtain ⟨h1, hp⟩ := hp
  refine g_callU (rest := []) s_X11_156_X2 rfl (c_X6_placeOf_C (E := E) (d := d - 1) 1 isBk_1 (by omega) x1 v h1) (kb_10 isBk_1) (lt_b isBk_1 (by decide)) rfl rfl (Nat.le_of_ble_eq_true rfl) (by omega) (by decide) (by decide) dX11_borneBy_8 (adTI (fun sr2 h3 => ?_)) (axTI (fun e h3 => g_outs rfl rfl (qe (P := gqTI Q v) h3 hQ)))
  have hQ := ql (P := gqTI Q v) h3 hQ
  have hp := hp sr2 h3
  refine g_lv (lv' := [(0, .ref (gX E + 0)), (2, .int x2)]) [0, 2] rfl ?_
  exact w_X11_borneBy_11  hd    x2 sr2 v hp hQ
def f_X11_borneBy  (x1 : Int32) (x2 : Int32) (v : gV) : Int32 ⊕ String := f_X11_borneBy_0 x1 x2 v
def p_X11_borneBy  (x1 : Int32) (x2 : Int32) (v : gV) : Prop := p_X11_borneBy_0 x1 x2 v
theorem c_X11_borneBy {E : gE} {d : Nat}   (hd : 8 ≤ d) (x1 : Int32) (x2 : Int32) (v : gV) (hp : p_X11_borneBy x1 x2 v) : CT E m_X11_borneBy d 2 12 [.ref (gX E + 0), .int x1, .int x2] (rS v) (Cq (gOi (f_X11_borneBy x1 x2 v)) v) := CT.of ok_X11_borneBy rfl (Nat.le_of_ble_eq_true rfl) (w_X11_borneBy_0  hd x1 x2 v hp ⟨rfl, rfl⟩)
def f_X11_paidIn_25  (s0 : Int32) (s1 : Int32) (v : gV) : Int32 ⊕ String := Sum.inl (v.1 (1 + 38 + 1 + (s1).toNatClampNeg) s0.toNatClampNeg)
def p_X11_paidIn_25  (s0 : Int32) (s1 : Int32) (v : gV) : Prop := (vp_in s1 6) ∧ ((vp_in s0 6) ∧ (True))
set_option maxHeartbeats 4000000 in
set_option maxRecDepth 100000 in
theorem w_X11_paidIn_25 {E : gE} {d : Nat} {Q : gO → gS → Prop}   (hd : 8 ≤ d) (s0 : Int32) (s1 : Int32) (v : gV) (hp : p_X11_paidIn_25   s0 s1 v) (hQ : gqTI Q v (f_X11_paidIn_25  s0 s1 v)) : gG E m_X11_paidIn d Q 0 0 (rS v) 25 [] [.int s0, .ref (gX E + (1 + 38 + 1 + (s1).toNatClampNeg))] := by
  obtain ⟨h8, hp⟩ := hp
  obtain ⟨h9, hp⟩ := hp
  refine g_iald (kg_38 isBk_1 h8) (lg_38 isBk_1 h8) h9 dX11_paidIn_25 ?_
  exact g_iret rfl dX11_paidIn_26 hQ
def f_X11_paidIn_6  (x2 : Int32) (s0 : Int32) (v : gV) : Int32 ⊕ String := Sum.elim (fun (sr6 : Int32) => f_X11_paidIn_25  sr6 s0 v) (fun (e : String) => Sum.inr e) (f_X11_checkedNumber x2 (0 : Int32) (5 : Int32) v)
def p_X11_paidIn_6  (x2 : Int32) (s0 : Int32) (v : gV) : Prop := (vp_in s0 6) ∧ ((p_X11_checkedNumber x2 (0 : Int32) (5 : Int32) v) ∧ (∀ (sr6 : Int32), (f_X11_checkedNumber x2 (0 : Int32) (5 : Int32) v) = Sum.inl sr6 → (p_X11_paidIn_25   sr6 s0 v)))
set_option maxHeartbeats 4000000 in
set_option maxRecDepth 100000 in
theorem w_X11_paidIn_6 {E : gE} {d : Nat} {Q : gO → gS → Prop}   (hd : 8 ≤ d) (x2 : Int32) (s0 : Int32) (v : gV) (hp : p_X11_paidIn_6   x2 s0 v) (hQ : gqTI Q v (f_X11_paidIn_6  x2 s0 v)) : gG E m_X11_paidIn d Q 1 6 (rS v) 6 [(0, .ref (gX E + 0)), (2, .int x2)] [.int s0] := by
  refine g_istore_n [(3, .int s0), (0, .ref (gX E + 0)), (2, .int x2)] dX11_paidIn_6 rfl (by decide) rfl ?_
  refine g_aload_n 1 dX11_paidIn_7 rfl ?_
  refine r_get (.ref (gX E + 1)) f_X11_10_X11 rfl (by decide : kd 0 = (0, 8)) (show 0 < 572 by decide) dX11_paidIn_8 (fun _ => rfl) ?_
  refine r_get (.ref (gX E + (1 + 37))) f_X11_214_X1 rfl (kbz isBk_1) (lt_b0 isBk_1) dX11_paidIn_11 (fun _ => rfl) ?_
  refine r_get (.ref (gX E + (1 + 38))) f_X11_218_X9 rfl (kb_37 isBk_1) (lt_b isBk_1 (by decide)) dX11_paidIn_14 (fun _ => rfl) ?_
  refine g_iload_n 0 dX11_paidIn_17 rfl ?_
  obtain ⟨h4, hp⟩ := hp
  refine r_aald (kb_38 isBk_1) (lt_b isBk_1 (by decide)) h4 (by decide) dX11_paidIn_18 ?_
  refine g_iload_n 2 dX11_paidIn_19 rfl ?_
  refine g_iconst dX11_paidIn_20 (0 : Int32) (by decide) ?_
  refine g_iconst dX11_paidIn_21 (5 : Int32) (by decide) ?_
  obtain ⟨h5, hp⟩ := hp
  refine g_callS (rest := [.ref (gX E + (1 + 38 + 1 + (s0).toNatClampNeg))]) s_X11_190 rfl (c_X11_checkedNumber (E := E) (d := d - 1)   (by omega) x2 (0 : Int32) (5 : Int32) v h5) rfl rfl (Nat.le_of_ble_eq_true rfl) (by omega) (by decide) (by decide) dX11_paidIn_22 (adTI (fun sr6 h7 => ?_)) (axTI (fun e h7 => g_outs rfl rfl (qe (P := gqTI Q v) h7 hQ)))
  have hQ := ql (P := gqTI Q v) h7 hQ
  have hp := hp sr6 h7
  refine g_lv (lv' := []) [] rfl ?_
  exact w_X11_paidIn_25  hd    sr6 s0 v hp hQ
def f_X11_paidIn_0  (x1 : Int32) (x2 : Int32) (v : gV) : Int32 ⊕ String := Sum.elim (fun (sr2 : Int32) => f_X11_paidIn_6  x2 sr2 v) (fun (e : String) => Sum.inr e) (f_X11_checkedNumber x1 (0 : Int32) (5 : Int32) v)
def p_X11_paidIn_0  (x1 : Int32) (x2 : Int32) (v : gV) : Prop := (p_X11_checkedNumber x1 (0 : Int32) (5 : Int32) v) ∧ (∀ (sr2 : Int32), (f_X11_checkedNumber x1 (0 : Int32) (5 : Int32) v) = Sum.inl sr2 → (p_X11_paidIn_6   x2 sr2 v))
set_option maxHeartbeats 4000000 in
set_option maxRecDepth 100000 in
theorem w_X11_paidIn_0 {E : gE} {d : Nat} {Q : gO → gS → Prop}   (hd : 8 ≤ d) (x1 : Int32) (x2 : Int32) (v : gV) (hp : p_X11_paidIn_0   x1 x2 v) (hQ : gqTI Q v (f_X11_paidIn_0  x1 x2 v)) : gG E m_X11_paidIn d Q 2 12 (rS v) 0 [(0, .ref (gX E + 0)), (1, .int x1), (2, .int x2)] [] := by
  refine g_iload_n 1 dX11_paidIn_0 rfl ?_
  refine g_iconst dX11_paidIn_1 (0 : Int32) (by decide) ?_
  refine g_iconst dX11_paidIn_2 (5 : Int32) (by decide) ?_
  obtain ⟨h1, hp⟩ := hp
  refine g_callS (rest := []) s_X11_190 rfl (c_X11_checkedNumber (E := E) (d := d - 1)   (by omega) x1 (0 : Int32) (5 : Int32) v h1) rfl rfl (Nat.le_of_ble_eq_true rfl) (by omega) (by decide) (by decide) dX11_paidIn_3 (adTI (fun sr2 h3 => ?_)) (axTI (fun e h3 => g_outs rfl rfl (qe (P := gqTI Q v) h3 hQ)))
  have hQ := ql (P := gqTI Q v) h3 hQ
  have hp := hp sr2 h3
  refine g_lv (lv' := [(0, .ref (gX E + 0)), (2, .int x2)]) [0, 2] rfl ?_
  exact w_X11_paidIn_6  hd    x2 sr2 v hp hQ
def f_X11_paidIn  (x1 : Int32) (x2 : Int32) (v : gV) : Int32 ⊕ String := f_X11_paidIn_0 x1 x2 v
def p_X11_paidIn  (x1 : Int32) (x2 : Int32) (v : gV) : Prop := p_X11_paidIn_0 x1 x2 v
theorem c_X11_paidIn {E : gE} {d : Nat}   (hd : 8 ≤ d) (x1 : Int32) (x2 : Int32) (v : gV) (hp : p_X11_paidIn x1 x2 v) : CT E m_X11_paidIn d 2 12 [.ref (gX E + 0), .int x1, .int x2] (rS v) (Cq (gOi (f_X11_paidIn x1 x2 v)) v) := CT.of ok_X11_paidIn rfl (Nat.le_of_ble_eq_true rfl) (w_X11_paidIn_0  hd x1 x2 v hp ⟨rfl, rfl⟩)
def f_L_policyAt_9   (v : gV) : Int32 × gV := ((0 : Int32), v)
def p_L_policyAt_9   (v : gV) : Prop := True
set_option maxHeartbeats 4000000 in
set_option maxRecDepth 100000 in
theorem w_L_policyAt_9 {E : gE} {d : Nat} {Q : gO → gS → Prop}   (hd : 9 ≤ d)  (v : gV) (hp : p_L_policyAt_9    v) (hQ : gqIV Q (f_L_policyAt_9   v)) : gG E m_L_policyAt d Q 0 0 (rS v) 9 [] [] := by
  refine g_goto 15 dL_policyAt_9 (by decide) ?_
  refine g_iconst dL_policyAt_15 (0 : Int32) (by decide) ?_
  exact g_iret rfl dL_policyAt_16 hQ
def f_L_policyAt_7  (s0 : Int32) (s1 : Int32) (v : gV) : Int32 × gV := f_L_policyAt_9   (vL v 570 s1.toNatClampNeg s0.toInt64)
def p_L_policyAt_7  (s0 : Int32) (s1 : Int32) (v : gV) : Prop := (vp_in s1 1) ∧ (p_L_policyAt_9    (vL v 570 s1.toNatClampNeg s0.toInt64))
set_option maxHeartbeats 4000000 in
set_option maxRecDepth 100000 in
theorem w_L_policyAt_7 {E : gE} {d : Nat} {Q : gO → gS → Prop}   (hd : 9 ≤ d) (s0 : Int32) (s1 : Int32) (v : gV) (hp : p_L_policyAt_7   s0 s1 v) (hQ : gqIV Q (f_L_policyAt_7  s0 s1 v)) : gG E m_L_policyAt d Q 0 0 (rS v) 7 [] [.int s0, .int s1, .ref (gX E + 570)] := by
  refine g_i2l dL_policyAt_7 ?_
  obtain ⟨h4, hp⟩ := hp
  refine r_last (by decide : kd 570 = (3, 1)) (show 570 < 572 by decide) h4 dL_policyAt_8 ?_
  exact w_L_policyAt_9  hd     (vL v 570 s1.toNatClampNeg s0.toInt64) hp hQ
def f_L_policyAt_13   (v : gV) : Int32 × gV := ((1 : Int32), v)
def p_L_policyAt_13   (v : gV) : Prop := True
set_option maxHeartbeats 4000000 in
set_option maxRecDepth 100000 in
theorem w_L_policyAt_13 {E : gE} {d : Nat} {Q : gO → gS → Prop}   (hd : 9 ≤ d)  (v : gV) (hp : p_L_policyAt_13    v) (hQ : gqIV Q (f_L_policyAt_13   v)) : gG E m_L_policyAt d Q 0 0 (rS v) 13 [] [] := by
  refine g_iconst dL_policyAt_13 (1 : Int32) (by decide) ?_
  exact g_iret rfl dL_policyAt_14 hQ
def f_L_policyAt_0  (x1 : Int32) (v : gV) : Int32 × gV := Sum.elim (fun (sr2 : Int32) => f_L_policyAt_7  sr2 (0 : Int32) v) (fun (e : String) => if e = "java/lang/IndexOutOfBoundsException" then (f_L_policyAt_13   v) else ((0, v))) (f_X11_policyAt x1 v)
def p_L_policyAt_0  (x1 : Int32) (v : gV) : Prop := (p_X11_policyAt x1 v) ∧ ((∀ (sr2 : Int32), (f_X11_policyAt x1 v) = Sum.inl sr2 → (p_L_policyAt_7   sr2 (0 : Int32) v)) ∧ (∀ (e : String), (f_X11_policyAt x1 v) = Sum.inr e → (((e = "java/lang/IndexOutOfBoundsException") → (p_L_policyAt_13    v)) ∧ (¬ (e = "java/lang/IndexOutOfBoundsException") → (False)))))
set_option maxHeartbeats 4000000 in
set_option maxRecDepth 100000 in
theorem w_L_policyAt_0 {E : gE} {d : Nat} {Q : gO → gS → Prop}   (hd : 9 ≤ d) (x1 : Int32) (v : gV) (hp : p_L_policyAt_0   x1 v) (hQ : gqIV Q (f_L_policyAt_0  x1 v)) : gG E m_L_policyAt d Q 1 6 (rS v) 0 [(0, .ref (gX E + 0)), (1, .int x1), (2, .ref (gX E + 570))] [] := by
  refine g_aload_n 2 dL_policyAt_0 rfl ?_
  refine g_iconst dL_policyAt_1 (0 : Int32) (by decide) ?_
  refine g_aload_n 0 dL_policyAt_2 rfl ?_
  refine g_iload_n 1 dL_policyAt_3 rfl ?_
  obtain ⟨h1, hp⟩ := hp
  refine g_callV (rest := [.int ((0 : Int32)), .ref (gX E + 570)]) s_L_57_X11 rfl (c_X11_policyAt (E := E) (d := d - 1)   (by omega) x1 v h1) (by decide : kd 0 = (0, 8)) (show 0 < 572 by decide) rfl rfl (Nat.le_of_ble_eq_true rfl) (by omega) (by decide) (by decide) dL_policyAt_4 (adTI (fun sr2 h3 => ?_)) (axTI (fun e h3 => ?_))
  · have hQ := ql (P := gqIV Q) h3 hQ
    have hp := hp.1 sr2 h3
    refine g_lv (lv' := []) [] rfl ?_
    exact w_L_policyAt_7  hd    sr2 (0 : Int32) v hp hQ
  · have hQ := qe (P := gqIV Q) h3 hQ
    have hp := hp.2 e h3
    by_cases h5 : e = "java/lang/IndexOutOfBoundsException"
    · subst h5
      have hQ := qp (P := gqIV Q) rfl hQ
      have hp := hp.1 rfl
      refine g_catch2 [] (0, 9, 12, 30) [] rfl (fun z hz => absurd hz List.not_mem_nil) (by decide) (by decide) w_937 w_974 (fun q => ?_)
      refine g_astore_n [(3, .ref q), (0, .ref (gX E + 0)), (1, .int x1), (2, .ref (gX E + 570))] dL_policyAt_12 rfl (by decide) rfl ?_
      refine g_lv (lv' := []) [] rfl ?_
      exact w_L_policyAt_13  hd     v hp hQ
    have hQ := qn (P := gqIV Q) h5 hQ
    have hp := hp.2 h5
    exact hp.elim
def f_L_policyAt  (x1 : Int32) (v : gV) : Int32 × gV := f_L_policyAt_0 x1 v
def p_L_policyAt  (x1 : Int32) (v : gV) : Prop := p_L_policyAt_0 x1 v
theorem c_L_policyAt {E : gE} {d : Nat}   (hd : 9 ≤ d) (x1 : Int32) (v : gV) (hp : p_L_policyAt x1 v) : CT E m_L_policyAt d 1 6 [.ref (gX E + 0), .int x1, .ref (gX E + 570)] (rS v) (Cq (.inl (some (.int ((f_L_policyAt x1 v).1)))) (f_L_policyAt x1 v).2) := CT.ofH ok_L_policyAt rfl (Nat.le_of_ble_eq_true rfl) (w_L_policyAt_0  hd x1 v hp ⟨rfl, rfl⟩)
def f_L_sumOf_9   (v : gV) : Int32 × gV := ((0 : Int32), v)
def p_L_sumOf_9   (v : gV) : Prop := True
set_option maxHeartbeats 4000000 in
set_option maxRecDepth 100000 in
theorem w_L_sumOf_9 {E : gE} {d : Nat} {Q : gO → gS → Prop}   (hd : 9 ≤ d)  (v : gV) (hp : p_L_sumOf_9    v) (hQ : gqIV Q (f_L_sumOf_9   v)) : gG E m_L_sumOf d Q 0 0 (rS v) 9 [] [] := by
  refine g_goto 15 dL_sumOf_9 (by decide) ?_
  refine g_iconst dL_sumOf_15 (0 : Int32) (by decide) ?_
  exact g_iret rfl dL_sumOf_16 hQ
def f_L_sumOf_7  (s0 : Int32) (s1 : Int32) (v : gV) : Int32 × gV := f_L_sumOf_9   (vL v 570 s1.toNatClampNeg s0.toInt64)
def p_L_sumOf_7  (s0 : Int32) (s1 : Int32) (v : gV) : Prop := (vp_in s1 1) ∧ (p_L_sumOf_9    (vL v 570 s1.toNatClampNeg s0.toInt64))
set_option maxHeartbeats 4000000 in
set_option maxRecDepth 100000 in
theorem w_L_sumOf_7 {E : gE} {d : Nat} {Q : gO → gS → Prop}   (hd : 9 ≤ d) (s0 : Int32) (s1 : Int32) (v : gV) (hp : p_L_sumOf_7   s0 s1 v) (hQ : gqIV Q (f_L_sumOf_7  s0 s1 v)) : gG E m_L_sumOf d Q 0 0 (rS v) 7 [] [.int s0, .int s1, .ref (gX E + 570)] := by
  refine g_i2l dL_sumOf_7 ?_
  obtain ⟨h4, hp⟩ := hp
  refine r_last (by decide : kd 570 = (3, 1)) (show 570 < 572 by decide) h4 dL_sumOf_8 ?_
  exact w_L_sumOf_9  hd     (vL v 570 s1.toNatClampNeg s0.toInt64) hp hQ
def f_L_sumOf_13   (v : gV) : Int32 × gV := ((1 : Int32), v)
def p_L_sumOf_13   (v : gV) : Prop := True
set_option maxHeartbeats 4000000 in
set_option maxRecDepth 100000 in
theorem w_L_sumOf_13 {E : gE} {d : Nat} {Q : gO → gS → Prop}   (hd : 9 ≤ d)  (v : gV) (hp : p_L_sumOf_13    v) (hQ : gqIV Q (f_L_sumOf_13   v)) : gG E m_L_sumOf d Q 0 0 (rS v) 13 [] [] := by
  refine g_iconst dL_sumOf_13 (1 : Int32) (by decide) ?_
  exact g_iret rfl dL_sumOf_14 hQ
def f_L_sumOf_0  (x1 : Int32) (v : gV) : Int32 × gV := Sum.elim (fun (sr2 : Int32) => f_L_sumOf_7  sr2 (0 : Int32) v) (fun (e : String) => if e = "java/util/NoSuchElementException" then (f_L_sumOf_13   v) else ((0, v))) (f_X11_sumOf x1 v)
def p_L_sumOf_0  (x1 : Int32) (v : gV) : Prop := (p_X11_sumOf x1 v) ∧ ((∀ (sr2 : Int32), (f_X11_sumOf x1 v) = Sum.inl sr2 → (p_L_sumOf_7   sr2 (0 : Int32) v)) ∧ (∀ (e : String), (f_X11_sumOf x1 v) = Sum.inr e → (((e = "java/util/NoSuchElementException") → (p_L_sumOf_13    v)) ∧ (¬ (e = "java/util/NoSuchElementException") → (False)))))
set_option maxHeartbeats 4000000 in
set_option maxRecDepth 100000 in
theorem w_L_sumOf_0 {E : gE} {d : Nat} {Q : gO → gS → Prop}   (hd : 9 ≤ d) (x1 : Int32) (v : gV) (hp : p_L_sumOf_0   x1 v) (hQ : gqIV Q (f_L_sumOf_0  x1 v)) : gG E m_L_sumOf d Q 1 6 (rS v) 0 [(0, .ref (gX E + 0)), (1, .int x1), (2, .ref (gX E + 570))] [] := by
  refine g_aload_n 2 dL_sumOf_0 rfl ?_
  refine g_iconst dL_sumOf_1 (0 : Int32) (by decide) ?_
  refine g_aload_n 0 dL_sumOf_2 rfl ?_
  refine g_iload_n 1 dL_sumOf_3 rfl ?_
  obtain ⟨h1, hp⟩ := hp
  refine g_callV (rest := [.int ((0 : Int32)), .ref (gX E + 570)]) s_L_60_X11 rfl (c_X11_sumOf (E := E) (d := d - 1)   (by omega) x1 v h1) (by decide : kd 0 = (0, 8)) (show 0 < 572 by decide) rfl rfl (Nat.le_of_ble_eq_true rfl) (by omega) (by decide) (by decide) dL_sumOf_4 (adTI (fun sr2 h3 => ?_)) (axTI (fun e h3 => ?_))
  · have hQ := ql (P := gqIV Q) h3 hQ
    have hp := hp.1 sr2 h3
    refine g_lv (lv' := []) [] rfl ?_
    exact w_L_sumOf_7  hd    sr2 (0 : Int32) v hp hQ
  · have hQ := qe (P := gqIV Q) h3 hQ
    have hp := hp.2 e h3
    by_cases h5 : e = "java/util/NoSuchElementException"
    · subst h5
      have hQ := qp (P := gqIV Q) rfl hQ
      have hp := hp.1 rfl
      refine g_catch2 [] (0, 9, 12, 21) [] rfl (fun z hz => absurd hz List.not_mem_nil) (by decide) (by decide) w_860 w_880 (fun q => ?_)
      refine g_astore_n [(3, .ref q), (0, .ref (gX E + 0)), (1, .int x1), (2, .ref (gX E + 570))] dL_sumOf_12 rfl (by decide) rfl ?_
      refine g_lv (lv' := []) [] rfl ?_
      exact w_L_sumOf_13  hd     v hp hQ
    have hQ := qn (P := gqIV Q) h5 hQ
    have hp := hp.2 h5
    exact hp.elim
def f_L_sumOf  (x1 : Int32) (v : gV) : Int32 × gV := f_L_sumOf_0 x1 v
def p_L_sumOf  (x1 : Int32) (v : gV) : Prop := p_L_sumOf_0 x1 v
theorem c_L_sumOf {E : gE} {d : Nat}   (hd : 9 ≤ d) (x1 : Int32) (v : gV) (hp : p_L_sumOf x1 v) : CT E m_L_sumOf d 1 6 [.ref (gX E + 0), .int x1, .ref (gX E + 570)] (rS v) (Cq (.inl (some (.int ((f_L_sumOf x1 v).1)))) (f_L_sumOf x1 v).2) := CT.ofH ok_L_sumOf rfl (Nat.le_of_ble_eq_true rfl) (w_L_sumOf_0  hd x1 v hp ⟨rfl, rfl⟩)
def f_L_sumLeft_9   (v : gV) : Int32 × gV := ((0 : Int32), v)
def p_L_sumLeft_9   (v : gV) : Prop := True
set_option maxHeartbeats 4000000 in
set_option maxRecDepth 100000 in
theorem w_L_sumLeft_9 {E : gE} {d : Nat} {Q : gO → gS → Prop}   (hd : 9 ≤ d)  (v : gV) (hp : p_L_sumLeft_9    v) (hQ : gqIV Q (f_L_sumLeft_9   v)) : gG E m_L_sumLeft d Q 0 0 (rS v) 9 [] [] := by
  refine g_goto 15 dL_sumLeft_9 (by decide) ?_
  refine g_iconst dL_sumLeft_15 (0 : Int32) (by decide) ?_
  exact g_iret rfl dL_sumLeft_16 hQ
def f_L_sumLeft_7  (s0 : Int32) (s1 : Int32) (v : gV) : Int32 × gV := f_L_sumLeft_9   (vL v 570 s1.toNatClampNeg s0.toInt64)
def p_L_sumLeft_7  (s0 : Int32) (s1 : Int32) (v : gV) : Prop := (vp_in s1 1) ∧ (p_L_sumLeft_9    (vL v 570 s1.toNatClampNeg s0.toInt64))
set_option maxHeartbeats 4000000 in
set_option maxRecDepth 100000 in
theorem w_L_sumLeft_7 {E : gE} {d : Nat} {Q : gO → gS → Prop}   (hd : 9 ≤ d) (s0 : Int32) (s1 : Int32) (v : gV) (hp : p_L_sumLeft_7   s0 s1 v) (hQ : gqIV Q (f_L_sumLeft_7  s0 s1 v)) : gG E m_L_sumLeft d Q 0 0 (rS v) 7 [] [.int s0, .int s1, .ref (gX E + 570)] := by
  refine g_i2l dL_sumLeft_7 ?_
  obtain ⟨h4, hp⟩ := hp
  refine r_last (by decide : kd 570 = (3, 1)) (show 570 < 572 by decide) h4 dL_sumLeft_8 ?_
  exact w_L_sumLeft_9  hd     (vL v 570 s1.toNatClampNeg s0.toInt64) hp hQ
def f_L_sumLeft_13   (v : gV) : Int32 × gV := ((1 : Int32), v)
def p_L_sumLeft_13   (v : gV) : Prop := True
set_option maxHeartbeats 4000000 in
set_option maxRecDepth 100000 in
theorem w_L_sumLeft_13 {E : gE} {d : Nat} {Q : gO → gS → Prop}   (hd : 9 ≤ d)  (v : gV) (hp : p_L_sumLeft_13    v) (hQ : gqIV Q (f_L_sumLeft_13   v)) : gG E m_L_sumLeft d Q 0 0 (rS v) 13 [] [] := by
  refine g_iconst dL_sumLeft_13 (1 : Int32) (by decide) ?_
  exact g_iret rfl dL_sumLeft_14 hQ
def f_L_sumLeft_0  (x1 : Int32) (v : gV) : Int32 × gV := Sum.elim (fun (sr2 : Int32) => f_L_sumLeft_7  sr2 (0 : Int32) v) (fun (e : String) => if e = "java/util/NoSuchElementException" then (f_L_sumLeft_13   v) else ((0, v))) (f_X11_sumLeft x1 v)
def p_L_sumLeft_0  (x1 : Int32) (v : gV) : Prop := (p_X11_sumLeft x1 v) ∧ ((∀ (sr2 : Int32), (f_X11_sumLeft x1 v) = Sum.inl sr2 → (p_L_sumLeft_7   sr2 (0 : Int32) v)) ∧ (∀ (e : String), (f_X11_sumLeft x1 v) = Sum.inr e → (((e = "java/util/NoSuchElementException") → (p_L_sumLeft_13    v)) ∧ (¬ (e = "java/util/NoSuchElementException") → (False)))))
set_option maxHeartbeats 4000000 in
set_option maxRecDepth 100000 in
theorem w_L_sumLeft_0 {E : gE} {d : Nat} {Q : gO → gS → Prop}   (hd : 9 ≤ d) (x1 : Int32) (v : gV) (hp : p_L_sumLeft_0   x1 v) (hQ : gqIV Q (f_L_sumLeft_0  x1 v)) : gG E m_L_sumLeft d Q 1 6 (rS v) 0 [(0, .ref (gX E + 0)), (1, .int x1), (2, .ref (gX E + 570))] [] := by
  refine g_aload_n 2 dL_sumLeft_0 rfl ?_
  refine g_iconst dL_sumLeft_1 (0 : Int32) (by decide) ?_
  refine g_aload_n 0 dL_sumLeft_2 rfl ?_
  refine g_iload_n 1 dL_sumLeft_3 rfl ?_
  obtain ⟨h1, hp⟩ := hp
  refine g_callV (rest := [.int ((0 : Int32)), .ref (gX E + 570)]) s_L_63_X11 rfl (c_X11_sumLeft (E := E) (d := d - 1)   (by omega) x1 v h1) (by decide : kd 0 = (0, 8)) (show 0 < 572 by decide) rfl rfl (Nat.le_of_ble_eq_true rfl) (by omega) (by decide) (by decide) dL_sumLeft_4 (adTI (fun sr2 h3 => ?_)) (axTI (fun e h3 => ?_))
  · have hQ := ql (P := gqIV Q) h3 hQ
    have hp := hp.1 sr2 h3
    refine g_lv (lv' := []) [] rfl ?_
    exact w_L_sumLeft_7  hd    sr2 (0 : Int32) v hp hQ
  · have hQ := qe (P := gqIV Q) h3 hQ
    have hp := hp.2 e h3
    by_cases h5 : e = "java/util/NoSuchElementException"
    · subst h5
      have hQ := qp (P := gqIV Q) rfl hQ
      have hp := hp.1 rfl
      refine g_catch2 [] (0, 9, 12, 21) [] rfl (fun z hz => absurd hz List.not_mem_nil) (by decide) (by decide) w_860 w_880 (fun q => ?_)
      refine g_astore_n [(3, .ref q), (0, .ref (gX E + 0)), (1, .int x1), (2, .ref (gX E + 570))] dL_sumLeft_12 rfl (by decide) rfl ?_
      refine g_lv (lv' := []) [] rfl ?_
      exact w_L_sumLeft_13  hd     v hp hQ
    have hQ := qn (P := gqIV Q) h5 hQ
    have hp := hp.2 h5
    exact hp.elim
def f_L_sumLeft  (x1 : Int32) (v : gV) : Int32 × gV := f_L_sumLeft_0 x1 v
def p_L_sumLeft  (x1 : Int32) (v : gV) : Prop := p_L_sumLeft_0 x1 v
theorem c_L_sumLeft {E : gE} {d : Nat}   (hd : 9 ≤ d) (x1 : Int32) (v : gV) (hp : p_L_sumLeft x1 v) : CT E m_L_sumLeft d 1 6 [.ref (gX E + 0), .int x1, .ref (gX E + 570)] (rS v) (Cq (.inl (some (.int ((f_L_sumLeft x1 v).1)))) (f_L_sumLeft x1 v).2) := CT.ofH ok_L_sumLeft rfl (Nat.le_of_ble_eq_true rfl) (w_L_sumLeft_0  hd x1 v hp ⟨rfl, rfl⟩)
def f_L_riskOf_9   (v : gV) : Int32 × gV := ((0 : Int32), v)
def p_L_riskOf_9   (v : gV) : Prop := True
set_option maxHeartbeats 4000000 in
set_option maxRecDepth 100000 in
theorem w_L_riskOf_9 {E : gE} {d : Nat} {Q : gO → gS → Prop}   (hd : 9 ≤ d)  (v : gV) (hp : p_L_riskOf_9    v) (hQ : gqIV Q (f_L_riskOf_9   v)) : gG E m_L_riskOf d Q 0 0 (rS v) 9 [] [] := by
  refine g_goto 15 dL_riskOf_9 (by decide) ?_
  refine g_iconst dL_riskOf_15 (0 : Int32) (by decide) ?_
  exact g_iret rfl dL_riskOf_16 hQ
def f_L_riskOf_7  (s0 : Int32) (s1 : Int32) (v : gV) : Int32 × gV := f_L_riskOf_9   (vL v 570 s1.toNatClampNeg s0.toInt64)
def p_L_riskOf_7  (s0 : Int32) (s1 : Int32) (v : gV) : Prop := (vp_in s1 1) ∧ (p_L_riskOf_9    (vL v 570 s1.toNatClampNeg s0.toInt64))
set_option maxHeartbeats 4000000 in
set_option maxRecDepth 100000 in
theorem w_L_riskOf_7 {E : gE} {d : Nat} {Q : gO → gS → Prop}   (hd : 9 ≤ d) (s0 : Int32) (s1 : Int32) (v : gV) (hp : p_L_riskOf_7   s0 s1 v) (hQ : gqIV Q (f_L_riskOf_7  s0 s1 v)) : gG E m_L_riskOf d Q 0 0 (rS v) 7 [] [.int s0, .int s1, .ref (gX E + 570)] := by
  refine g_i2l dL_riskOf_7 ?_
  obtain ⟨h4, hp⟩ := hp
  refine r_last (by decide : kd 570 = (3, 1)) (show 570 < 572 by decide) h4 dL_riskOf_8 ?_
  exact w_L_riskOf_9  hd     (vL v 570 s1.toNatClampNeg s0.toInt64) hp hQ
def f_L_riskOf_13   (v : gV) : Int32 × gV := ((1 : Int32), v)
def p_L_riskOf_13   (v : gV) : Prop := True
set_option maxHeartbeats 4000000 in
set_option maxRecDepth 100000 in
theorem w_L_riskOf_13 {E : gE} {d : Nat} {Q : gO → gS → Prop}   (hd : 9 ≤ d)  (v : gV) (hp : p_L_riskOf_13    v) (hQ : gqIV Q (f_L_riskOf_13   v)) : gG E m_L_riskOf d Q 0 0 (rS v) 13 [] [] := by
  refine g_iconst dL_riskOf_13 (1 : Int32) (by decide) ?_
  exact g_iret rfl dL_riskOf_14 hQ
def f_L_riskOf_0  (x1 : Int32) (v : gV) : Int32 × gV := Sum.elim (fun (sr2 : Int32) => f_L_riskOf_7  sr2 (0 : Int32) v) (fun (e : String) => if e = "java/util/NoSuchElementException" then (f_L_riskOf_13   v) else ((0, v))) (f_X11_riskOf x1 v)
def p_L_riskOf_0  (x1 : Int32) (v : gV) : Prop := (p_X11_riskOf x1 v) ∧ ((∀ (sr2 : Int32), (f_X11_riskOf x1 v) = Sum.inl sr2 → (p_L_riskOf_7   sr2 (0 : Int32) v)) ∧ (∀ (e : String), (f_X11_riskOf x1 v) = Sum.inr e → (((e = "java/util/NoSuchElementException") → (p_L_riskOf_13    v)) ∧ (¬ (e = "java/util/NoSuchElementException") → (False)))))
set_option maxHeartbeats 4000000 in
set_option maxRecDepth 100000 in
theorem w_L_riskOf_0 {E : gE} {d : Nat} {Q : gO → gS → Prop}   (hd : 9 ≤ d) (x1 : Int32) (v : gV) (hp : p_L_riskOf_0   x1 v) (hQ : gqIV Q (f_L_riskOf_0  x1 v)) : gG E m_L_riskOf d Q 1 6 (rS v) 0 [(0, .ref (gX E + 0)), (1, .int x1), (2, .ref (gX E + 570))] [] := by
  refine g_aload_n 2 dL_riskOf_0 rfl ?_
  refine g_iconst dL_riskOf_1 (0 : Int32) (by decide) ?_
  refine g_aload_n 0 dL_riskOf_2 rfl ?_
  refine g_iload_n 1 dL_riskOf_3 rfl ?_
  obtain ⟨h1, hp⟩ := hp
  refine g_callV (rest := [.int ((0 : Int32)), .ref (gX E + 570)]) s_L_66_X11 rfl (c_X11_riskOf (E := E) (d := d - 1)   (by omega) x1 v h1) (by decide : kd 0 = (0, 8)) (show 0 < 572 by decide) rfl rfl (Nat.le_of_ble_eq_true rfl) (by omega) (by decide) (by decide) dL_riskOf_4 (adTI (fun sr2 h3 => ?_)) (axTI (fun e h3 => ?_))
  · have hQ := ql (P := gqIV Q) h3 hQ
    have hp := hp.1 sr2 h3
    refine g_lv (lv' := []) [] rfl ?_
    exact w_L_riskOf_7  hd    sr2 (0 : Int32) v hp hQ
  · have hQ := qe (P := gqIV Q) h3 hQ
    have hp := hp.2 e h3
    by_cases h5 : e = "java/util/NoSuchElementException"
    · subst h5
      have hQ := qp (P := gqIV Q) rfl hQ
      have hp := hp.1 rfl
      refine g_catch2 [] (0, 9, 12, 21) [] rfl (fun z hz => absurd hz List.not_mem_nil) (by decide) (by decide) w_860 w_880 (fun q => ?_)
      refine g_astore_n [(3, .ref q), (0, .ref (gX E + 0)), (1, .int x1), (2, .ref (gX E + 570))] dL_riskOf_12 rfl (by decide) rfl ?_
      refine g_lv (lv' := []) [] rfl ?_
      exact w_L_riskOf_13  hd     v hp hQ
    have hQ := qn (P := gqIV Q) h5 hQ
    have hp := hp.2 h5
    exact hp.elim
def f_L_riskOf  (x1 : Int32) (v : gV) : Int32 × gV := f_L_riskOf_0 x1 v
def p_L_riskOf  (x1 : Int32) (v : gV) : Prop := p_L_riskOf_0 x1 v
theorem c_L_riskOf {E : gE} {d : Nat}   (hd : 9 ≤ d) (x1 : Int32) (v : gV) (hp : p_L_riskOf x1 v) : CT E m_L_riskOf d 1 6 [.ref (gX E + 0), .int x1, .ref (gX E + 570)] (rS v) (Cq (.inl (some (.int ((f_L_riskOf x1 v).1)))) (f_L_riskOf x1 v).2) := CT.ofH ok_L_riskOf rfl (Nat.le_of_ble_eq_true rfl) (w_L_riskOf_0  hd x1 v hp ⟨rfl, rfl⟩)
def f_L_premiumOf_9   (v : gV) : Int32 × gV := ((0 : Int32), v)
def p_L_premiumOf_9   (v : gV) : Prop := True
set_option maxHeartbeats 4000000 in
set_option maxRecDepth 100000 in
theorem w_L_premiumOf_9 {E : gE} {d : Nat} {Q : gO → gS → Prop}   (hd : 9 ≤ d)  (v : gV) (hp : p_L_premiumOf_9    v) (hQ : gqIV Q (f_L_premiumOf_9   v)) : gG E m_L_premiumOf d Q 0 0 (rS v) 9 [] [] := by
  refine g_goto 15 dL_premiumOf_9 (by decide) ?_
  refine g_iconst dL_premiumOf_15 (0 : Int32) (by decide) ?_
  exact g_iret rfl dL_premiumOf_16 hQ
def f_L_premiumOf_7  (s0 : Int32) (s1 : Int32) (v : gV) : Int32 × gV := f_L_premiumOf_9   (vL v 570 s1.toNatClampNeg s0.toInt64)
def p_L_premiumOf_7  (s0 : Int32) (s1 : Int32) (v : gV) : Prop := (vp_in s1 1) ∧ (p_L_premiumOf_9    (vL v 570 s1.toNatClampNeg s0.toInt64))
set_option maxHeartbeats 4000000 in
set_option maxRecDepth 100000 in
theorem w_L_premiumOf_7 {E : gE} {d : Nat} {Q : gO → gS → Prop}   (hd : 9 ≤ d) (s0 : Int32) (s1 : Int32) (v : gV) (hp : p_L_premiumOf_7   s0 s1 v) (hQ : gqIV Q (f_L_premiumOf_7  s0 s1 v)) : gG E m_L_premiumOf d Q 0 0 (rS v) 7 [] [.int s0, .int s1, .ref (gX E + 570)] := by
  refine g_i2l dL_premiumOf_7 ?_
  obtain ⟨h4, hp⟩ := hp
  refine r_last (by decide : kd 570 = (3, 1)) (show 570 < 572 by decide) h4 dL_premiumOf_8 ?_
  exact w_L_premiumOf_9  hd     (vL v 570 s1.toNatClampNeg s0.toInt64) hp hQ
def f_L_premiumOf_13   (v : gV) : Int32 × gV := ((1 : Int32), v)
def p_L_premiumOf_13   (v : gV) : Prop := True
set_option maxHeartbeats 4000000 in
set_option maxRecDepth 100000 in
theorem w_L_premiumOf_13 {E : gE} {d : Nat} {Q : gO → gS → Prop}   (hd : 9 ≤ d)  (v : gV) (hp : p_L_premiumOf_13    v) (hQ : gqIV Q (f_L_premiumOf_13   v)) : gG E m_L_premiumOf d Q 0 0 (rS v) 13 [] [] := by
  refine g_iconst dL_premiumOf_13 (1 : Int32) (by decide) ?_
  exact g_iret rfl dL_premiumOf_14 hQ
def f_L_premiumOf_0  (x1 : Int32) (v : gV) : Int32 × gV := Sum.elim (fun (sr2 : Int32) => f_L_premiumOf_7  sr2 (0 : Int32) v) (fun (e : String) => if e = "java/util/NoSuchElementException" then (f_L_premiumOf_13   v) else ((0, v))) (f_X11_premiumOf x1 v)
def p_L_premiumOf_0  (x1 : Int32) (v : gV) : Prop := (p_X11_premiumOf x1 v) ∧ ((∀ (sr2 : Int32), (f_X11_premiumOf x1 v) = Sum.inl sr2 → (p_L_premiumOf_7   sr2 (0 : Int32) v)) ∧ (∀ (e : String), (f_X11_premiumOf x1 v) = Sum.inr e → (((e = "java/util/NoSuchElementException") → (p_L_premiumOf_13    v)) ∧ (¬ (e = "java/util/NoSuchElementException") → (False)))))
set_option maxHeartbeats 4000000 in
set_option maxRecDepth 100000 in
theorem w_L_premiumOf_0 {E : gE} {d : Nat} {Q : gO → gS → Prop}   (hd : 9 ≤ d) (x1 : Int32) (v : gV) (hp : p_L_premiumOf_0   x1 v) (hQ : gqIV Q (f_L_premiumOf_0  x1 v)) : gG E m_L_premiumOf d Q 1 6 (rS v) 0 [(0, .ref (gX E + 0)), (1, .int x1), (2, .ref (gX E + 570))] [] := by
  refine g_aload_n 2 dL_premiumOf_0 rfl ?_
  refine g_iconst dL_premiumOf_1 (0 : Int32) (by decide) ?_
  refine g_aload_n 0 dL_premiumOf_2 rfl ?_
  refine g_iload_n 1 dL_premiumOf_3 rfl ?_
  obtain ⟨h1, hp⟩ := hp
  refine g_callV (rest := [.int ((0 : Int32)), .ref (gX E + 570)]) s_L_69_X11 rfl (c_X11_premiumOf (E := E) (d := d - 1)   (by omega) x1 v h1) (by decide : kd 0 = (0, 8)) (show 0 < 572 by decide) rfl rfl (Nat.le_of_ble_eq_true rfl) (by omega) (by decide) (by decide) dL_premiumOf_4 (adTI (fun sr2 h3 => ?_)) (axTI (fun e h3 => ?_))
  · have hQ := ql (P := gqIV Q) h3 hQ
    have hp := hp.1 sr2 h3
    refine g_lv (lv' := []) [] rfl ?_
    exact w_L_premiumOf_7  hd    sr2 (0 : Int32) v hp hQ
  · have hQ := qe (P := gqIV Q) h3 hQ
    have hp := hp.2 e h3
    by_cases h5 : e = "java/util/NoSuchElementException"
    · subst h5
      have hQ := qp (P := gqIV Q) rfl hQ
      have hp := hp.1 rfl
      refine g_catch2 [] (0, 9, 12, 21) [] rfl (fun z hz => absurd hz List.not_mem_nil) (by decide) (by decide) w_860 w_880 (fun q => ?_)
      refine g_astore_n [(3, .ref q), (0, .ref (gX E + 0)), (1, .int x1), (2, .ref (gX E + 570))] dL_premiumOf_12 rfl (by decide) rfl ?_
      refine g_lv (lv' := []) [] rfl ?_
      exact w_L_premiumOf_13  hd     v hp hQ
    have hQ := qn (P := gqIV Q) h5 hQ
    have hp := hp.2 h5
    exact hp.elim
def f_L_premiumOf  (x1 : Int32) (v : gV) : Int32 × gV := f_L_premiumOf_0 x1 v
def p_L_premiumOf  (x1 : Int32) (v : gV) : Prop := p_L_premiumOf_0 x1 v
theorem c_L_premiumOf {E : gE} {d : Nat}   (hd : 9 ≤ d) (x1 : Int32) (v : gV) (hp : p_L_premiumOf x1 v) : CT E m_L_premiumOf d 1 6 [.ref (gX E + 0), .int x1, .ref (gX E + 570)] (rS v) (Cq (.inl (some (.int ((f_L_premiumOf x1 v).1)))) (f_L_premiumOf x1 v).2) := CT.ofH ok_L_premiumOf rfl (Nat.le_of_ble_eq_true rfl) (w_L_premiumOf_0  hd x1 v hp ⟨rfl, rfl⟩)
def f_L_endOf_9   (v : gV) : Int32 × gV := ((0 : Int32), v)
def p_L_endOf_9   (v : gV) : Prop := True
set_option maxHeartbeats 4000000 in
set_option maxRecDepth 100000 in
theorem w_L_endOf_9 {E : gE} {d : Nat} {Q : gO → gS → Prop}   (hd : 9 ≤ d)  (v : gV) (hp : p_L_endOf_9    v) (hQ : gqIV Q (f_L_endOf_9   v)) : gG E m_L_endOf d Q 0 0 (rS v) 9 [] [] := by
  refine g_goto 15 dL_endOf_9 (by decide) ?_
  refine g_iconst dL_endOf_15 (0 : Int32) (by decide) ?_
  exact g_iret rfl dL_endOf_16 hQ
def f_L_endOf_7  (s0 : Int32) (s1 : Int32) (v : gV) : Int32 × gV := f_L_endOf_9   (vL v 570 s1.toNatClampNeg s0.toInt64)
def p_L_endOf_7  (s0 : Int32) (s1 : Int32) (v : gV) : Prop := (vp_in s1 1) ∧ (p_L_endOf_9    (vL v 570 s1.toNatClampNeg s0.toInt64))
set_option maxHeartbeats 4000000 in
set_option maxRecDepth 100000 in
theorem w_L_endOf_7 {E : gE} {d : Nat} {Q : gO → gS → Prop}   (hd : 9 ≤ d) (s0 : Int32) (s1 : Int32) (v : gV) (hp : p_L_endOf_7   s0 s1 v) (hQ : gqIV Q (f_L_endOf_7  s0 s1 v)) : gG E m_L_endOf d Q 0 0 (rS v) 7 [] [.int s0, .int s1, .ref (gX E + 570)] := by
  refine g_i2l dL_endOf_7 ?_
  obtain ⟨h4, hp⟩ := hp
  refine r_last (by decide : kd 570 = (3, 1)) (show 570 < 572 by decide) h4 dL_endOf_8 ?_
  exact w_L_endOf_9  hd     (vL v 570 s1.toNatClampNeg s0.toInt64) hp hQ
def f_L_endOf_13   (v : gV) : Int32 × gV := ((1 : Int32), v)
def p_L_endOf_13   (v : gV) : Prop := True
set_option maxHeartbeats 4000000 in
set_option maxRecDepth 100000 in
theorem w_L_endOf_13 {E : gE} {d : Nat} {Q : gO → gS → Prop}   (hd : 9 ≤ d)  (v : gV) (hp : p_L_endOf_13    v) (hQ : gqIV Q (f_L_endOf_13   v)) : gG E m_L_endOf d Q 0 0 (rS v) 13 [] [] := by
  refine g_iconst dL_endOf_13 (1 : Int32) (by decide) ?_
  exact g_iret rfl dL_endOf_14 hQ
def f_L_endOf_0  (x1 : Int32) (v : gV) : Int32 × gV := Sum.elim (fun (sr2 : Int32) => f_L_endOf_7  sr2 (0 : Int32) v) (fun (e : String) => if e = "java/util/NoSuchElementException" then (f_L_endOf_13   v) else ((0, v))) (f_X11_endOf x1 v)
def p_L_endOf_0  (x1 : Int32) (v : gV) : Prop := (p_X11_endOf x1 v) ∧ ((∀ (sr2 : Int32), (f_X11_endOf x1 v) = Sum.inl sr2 → (p_L_endOf_7   sr2 (0 : Int32) v)) ∧ (∀ (e : String), (f_X11_endOf x1 v) = Sum.inr e → (((e = "java/util/NoSuchElementException") → (p_L_endOf_13    v)) ∧ (¬ (e = "java/util/NoSuchElementException") → (False)))))
set_option maxHeartbeats 4000000 in
set_option maxRecDepth 100000 in
theorem w_L_endOf_0 {E : gE} {d : Nat} {Q : gO → gS → Prop}   (hd : 9 ≤ d) (x1 : Int32) (v : gV) (hp : p_L_endOf_0   x1 v) (hQ : gqIV Q (f_L_endOf_0  x1 v)) : gG E m_L_endOf d Q 1 6 (rS v) 0 [(0, .ref (gX E + 0)), (1, .int x1), (2, .ref (gX E + 570))] [] := by
  refine g_aload_n 2 dL_endOf_0 rfl ?_
  refine g_iconst dL_endOf_1 (0 : Int32) (by decide) ?_
  refine g_aload_n 0 dL_endOf_2 rfl ?_
  refine g_iload_n 1 dL_endOf_3 rfl ?_
  obtain ⟨h1, hp⟩ := hp
  refine g_callV (rest := [.int ((0 : Int32)), .ref (gX E + 570)]) s_L_72_X11 rfl (c_X11_endOf (E := E) (d := d - 1)   (by omega) x1 v h1) (by decide : kd 0 = (0, 8)) (show 0 < 572 by decide) rfl rfl (Nat.le_of_ble_eq_true rfl) (by omega) (by decide) (by decide) dL_endOf_4 (adTI (fun sr2 h3 => ?_)) (axTI (fun e h3 => ?_))
  · have hQ := ql (P := gqIV Q) h3 hQ
    have hp := hp.1 sr2 h3
    refine g_lv (lv' := []) [] rfl ?_
    exact w_L_endOf_7  hd    sr2 (0 : Int32) v hp hQ
  · have hQ := qe (P := gqIV Q) h3 hQ
    have hp := hp.2 e h3
    by_cases h5 : e = "java/util/NoSuchElementException"
    · subst h5
      have hQ := qp (P := gqIV Q) rfl hQ
      have hp := hp.1 rfl
      refine g_catch2 [] (0, 9, 12, 21) [] rfl (fun z hz => absurd hz List.not_mem_nil) (by decide) (by decide) w_860 w_880 (fun q => ?_)
      refine g_astore_n [(3, .ref q), (0, .ref (gX E + 0)), (1, .int x1), (2, .ref (gX E + 570))] dL_endOf_12 rfl (by decide) rfl ?_
      refine g_lv (lv' := []) [] rfl ?_
      exact w_L_endOf_13  hd     v hp hQ
    have hQ := qn (P := gqIV Q) h5 hQ
    have hp := hp.2 h5
    exact hp.elim
def f_L_endOf  (x1 : Int32) (v : gV) : Int32 × gV := f_L_endOf_0 x1 v
def p_L_endOf  (x1 : Int32) (v : gV) : Prop := p_L_endOf_0 x1 v
theorem c_L_endOf {E : gE} {d : Nat}   (hd : 9 ≤ d) (x1 : Int32) (v : gV) (hp : p_L_endOf x1 v) : CT E m_L_endOf d 1 6 [.ref (gX E + 0), .int x1, .ref (gX E + 570)] (rS v) (Cq (.inl (some (.int ((f_L_endOf x1 v).1)))) (f_L_endOf x1 v).2) := CT.ofH ok_L_endOf rfl (Nat.le_of_ble_eq_true rfl) (w_L_endOf_0  hd x1 v hp ⟨rfl, rfl⟩)
def f_L_isActive_16   (v : gV) : Int32 × gV := ((0 : Int32), v)
def p_L_isActive_16   (v : gV) : Prop := True
set_option maxHeartbeats 4000000 in
set_option maxRecDepth 100000 in
theorem w_L_isActive_16 {E : gE} {d : Nat} {Q : gO → gS → Prop}   (hd : 9 ≤ d)  (v : gV) (hp : p_L_isActive_16    v) (hQ : gqIV Q (f_L_isActive_16   v)) : gG E m_L_isActive d Q 0 0 (rS v) 16 [] [] := by
  refine g_goto 22 dL_isActive_16 (by decide) ?_
  refine g_iconst dL_isActive_22 (0 : Int32) (by decide) ?_
  exact g_iret rfl dL_isActive_23 hQ
def f_L_isActive_15  (s0 : Int64) (s1 : Int32) (v : gV) : Int32 × gV := f_L_isActive_16   (vL v 570 s1.toNatClampNeg s0)
def p_L_isActive_15  (s0 : Int64) (s1 : Int32) (v : gV) : Prop := (vp_in s1 1) ∧ (p_L_isActive_16    (vL v 570 s1.toNatClampNeg s0))
set_option maxHeartbeats 4000000 in
set_option maxRecDepth 100000 in
theorem w_L_isActive_15 {E : gE} {d : Nat} {Q : gO → gS → Prop}   (hd : 9 ≤ d) (s0 : Int64) (s1 : Int32) (v : gV) (hp : p_L_isActive_15   s0 s1 v) (hQ : gqIV Q (f_L_isActive_15  s0 s1 v)) : gG E m_L_isActive d Q 0 0 (rS v) 15 [] [.long s0, .int s1, .ref (gX E + 570)] := by
  obtain ⟨h5, hp⟩ := hp
  refine r_last (by decide : kd 570 = (3, 1)) (show 570 < 572 by decide) h5 dL_isActive_15 ?_
  exact w_L_isActive_16  hd     (vL v 570 s1.toNatClampNeg s0) hp hQ
def f_L_isActive_7  (s0 : Int32) (s1 : Int32) (v : gV) : Int32 × gV := if s0 = 0 then (f_L_isActive_15  (0 : Int64) s1 v) else (f_L_isActive_15  (1 : Int64) s1 v)
def p_L_isActive_7  (s0 : Int32) (s1 : Int32) (v : gV) : Prop := ((s0 = 0) → (p_L_isActive_15   (0 : Int64) s1 v)) ∧ (¬ (s0 = 0) → (p_L_isActive_15   (1 : Int64) s1 v))
set_option maxHeartbeats 4000000 in
set_option maxRecDepth 100000 in
theorem w_L_isActive_7 {E : gE} {d : Nat} {Q : gO → gS → Prop}   (hd : 9 ≤ d) (s0 : Int32) (s1 : Int32) (v : gV) (hp : p_L_isActive_7   s0 s1 v) (hQ : gqIV Q (f_L_isActive_7  s0 s1 v)) : gG E m_L_isActive d Q 0 0 (rS v) 7 [] [.int s0, .int s1, .ref (gX E + 570)] := by
  refine g_if_eq 14 dL_isActive_7 (by decide) (fun h4 => ?_) (fun h4 => ?_)
  · have hQ := qp (P := gqIV Q) h4 hQ
    have hp := hp.1 h4
    refine g_lconst dL_isActive_14 (0 : Int64) (by decide) ?_
    exact w_L_isActive_15  hd    (0 : Int64) s1 v hp hQ
  · have hQ := qn (P := gqIV Q) h4 hQ
    have hp := hp.2 h4
    refine g_lconst dL_isActive_10 (1 : Int64) (by decide) ?_
    refine g_goto 15 dL_isActive_11 (by decide) ?_
    exact w_L_isActive_15  hd    (1 : Int64) s1 v hp hQ
def f_L_isActive_20   (v : gV) : Int32 × gV := ((1 : Int32), v)
def p_L_isActive_20   (v : gV) : Prop := True
set_option maxHeartbeats 4000000 in
set_option maxRecDepth 100000 in
theorem w_L_isActive_20 {E : gE} {d : Nat} {Q : gO → gS → Prop}   (hd : 9 ≤ d)  (v : gV) (hp : p_L_isActive_20    v) (hQ : gqIV Q (f_L_isActive_20   v)) : gG E m_L_isActive d Q 0 0 (rS v) 20 [] [] := by
  refine g_iconst dL_isActive_20 (1 : Int32) (by decide) ?_
  exact g_iret rfl dL_isActive_21 hQ
def f_L_isActive_0  (x1 : Int32) (v : gV) : Int32 × gV := Sum.elim (fun (sr2 : Int32) => f_L_isActive_7  sr2 (0 : Int32) v) (fun (e : String) => if e = "java/util/NoSuchElementException" then (f_L_isActive_20   v) else ((0, v))) (f_X11_isActive x1 v)
def p_L_isActive_0  (x1 : Int32) (v : gV) : Prop := (p_X11_isActive x1 v) ∧ ((∀ (sr2 : Int32), (f_X11_isActive x1 v) = Sum.inl sr2 → (p_L_isActive_7   sr2 (0 : Int32) v)) ∧ (∀ (e : String), (f_X11_isActive x1 v) = Sum.inr e → (((e = "java/util/NoSuchElementException") → (p_L_isActive_20    v)) ∧ (¬ (e = "java/util/NoSuchElementException") → (False)))))
set_option maxHeartbeats 4000000 in
set_option maxRecDepth 100000 in
theorem w_L_isActive_0 {E : gE} {d : Nat} {Q : gO → gS → Prop}   (hd : 9 ≤ d) (x1 : Int32) (v : gV) (hp : p_L_isActive_0   x1 v) (hQ : gqIV Q (f_L_isActive_0  x1 v)) : gG E m_L_isActive d Q 1 6 (rS v) 0 [(0, .ref (gX E + 0)), (1, .int x1), (2, .ref (gX E + 570))] [] := by
  refine g_aload_n 2 dL_isActive_0 rfl ?_
  refine g_iconst dL_isActive_1 (0 : Int32) (by decide) ?_
  refine g_aload_n 0 dL_isActive_2 rfl ?_
  refine g_iload_n 1 dL_isActive_3 rfl ?_
  obtain ⟨h1, hp⟩ := hp
  refine g_callV (rest := [.int ((0 : Int32)), .ref (gX E + 570)]) s_L_75_X11 rfl (c_X11_isActive (E := E) (d := d - 1)   (by omega) x1 v h1) (by decide : kd 0 = (0, 8)) (show 0 < 572 by decide) rfl rfl (Nat.le_of_ble_eq_true rfl) (by omega) (by decide) (by decide) dL_isActive_4 (adTI (fun sr2 h3 => ?_)) (axTI (fun e h3 => ?_))
  · have hQ := ql (P := gqIV Q) h3 hQ
    have hp := hp.1 sr2 h3
    refine g_lv (lv' := []) [] rfl ?_
    exact w_L_isActive_7  hd    sr2 (0 : Int32) v hp hQ
  · have hQ := qe (P := gqIV Q) h3 hQ
    have hp := hp.2 e h3
    by_cases h6 : e = "java/util/NoSuchElementException"
    · subst h6
      have hQ := qp (P := gqIV Q) rfl hQ
      have hp := hp.1 rfl
      refine g_catch2 [] (0, 16, 19, 21) [] rfl (fun z hz => absurd hz List.not_mem_nil) (by decide) (by decide) w_860 w_880 (fun q => ?_)
      refine g_astore_n [(3, .ref q), (0, .ref (gX E + 0)), (1, .int x1), (2, .ref (gX E + 570))] dL_isActive_19 rfl (by decide) rfl ?_
      refine g_lv (lv' := []) [] rfl ?_
      exact w_L_isActive_20  hd     v hp hQ
    have hQ := qn (P := gqIV Q) h6 hQ
    have hp := hp.2 h6
    exact hp.elim
def f_L_isActive  (x1 : Int32) (v : gV) : Int32 × gV := f_L_isActive_0 x1 v
def p_L_isActive  (x1 : Int32) (v : gV) : Prop := p_L_isActive_0 x1 v
theorem c_L_isActive {E : gE} {d : Nat}   (hd : 9 ≤ d) (x1 : Int32) (v : gV) (hp : p_L_isActive x1 v) : CT E m_L_isActive d 1 6 [.ref (gX E + 0), .int x1, .ref (gX E + 570)] (rS v) (Cq (.inl (some (.int ((f_L_isActive x1 v).1)))) (f_L_isActive x1 v).2) := CT.ofH ok_L_isActive rfl (Nat.le_of_ble_eq_true rfl) (w_L_isActive_0  hd x1 v hp ⟨rfl, rfl⟩)
def f_L_claimAt_9   (v : gV) : Int32 × gV := ((0 : Int32), v)
def p_L_claimAt_9   (v : gV) : Prop := True
set_option maxHeartbeats 4000000 in
set_option maxRecDepth 100000 in
theorem w_L_claimAt_9 {E : gE} {d : Nat} {Q : gO → gS → Prop}   (hd : 9 ≤ d)  (v : gV) (hp : p_L_claimAt_9    v) (hQ : gqIV Q (f_L_claimAt_9   v)) : gG E m_L_claimAt d Q 0 0 (rS v) 9 [] [] := by
  refine g_goto 15 dL_claimAt_9 (by decide) ?_
  refine g_iconst dL_claimAt_15 (0 : Int32) (by decide) ?_
  exact g_iret rfl dL_claimAt_16 hQ
def f_L_claimAt_7  (s0 : Int32) (s1 : Int32) (v : gV) : Int32 × gV := f_L_claimAt_9   (vL v 570 s1.toNatClampNeg s0.toInt64)
def p_L_claimAt_7  (s0 : Int32) (s1 : Int32) (v : gV) : Prop := (vp_in s1 1) ∧ (p_L_claimAt_9    (vL v 570 s1.toNatClampNeg s0.toInt64))
set_option maxHeartbeats 4000000 in
set_option maxRecDepth 100000 in
theorem w_L_claimAt_7 {E : gE} {d : Nat} {Q : gO → gS → Prop}   (hd : 9 ≤ d) (s0 : Int32) (s1 : Int32) (v : gV) (hp : p_L_claimAt_7   s0 s1 v) (hQ : gqIV Q (f_L_claimAt_7  s0 s1 v)) : gG E m_L_claimAt d Q 0 0 (rS v) 7 [] [.int s0, .int s1, .ref (gX E + 570)] := by
  refine g_i2l dL_claimAt_7 ?_
  obtain ⟨h4, hp⟩ := hp
  refine r_last (by decide : kd 570 = (3, 1)) (show 570 < 572 by decide) h4 dL_claimAt_8 ?_
  exact w_L_claimAt_9  hd     (vL v 570 s1.toNatClampNeg s0.toInt64) hp hQ
def f_L_claimAt_13   (v : gV) : Int32 × gV := ((1 : Int32), v)
def p_L_claimAt_13   (v : gV) : Prop := True
set_option maxHeartbeats 4000000 in
set_option maxRecDepth 100000 in
theorem w_L_claimAt_13 {E : gE} {d : Nat} {Q : gO → gS → Prop}   (hd : 9 ≤ d)  (v : gV) (hp : p_L_claimAt_13    v) (hQ : gqIV Q (f_L_claimAt_13   v)) : gG E m_L_claimAt d Q 0 0 (rS v) 13 [] [] := by
  refine g_iconst dL_claimAt_13 (1 : Int32) (by decide) ?_
  exact g_iret rfl dL_claimAt_14 hQ
def f_L_claimAt_0  (x1 : Int32) (v : gV) : Int32 × gV := Sum.elim (fun (sr2 : Int32) => f_L_claimAt_7  sr2 (0 : Int32) v) (fun (e : String) => if e = "java/lang/IndexOutOfBoundsException" then (f_L_claimAt_13   v) else ((0, v))) (f_X11_claimAt x1 v)
def p_L_claimAt_0  (x1 : Int32) (v : gV) : Prop := (p_X11_claimAt x1 v) ∧ ((∀ (sr2 : Int32), (f_X11_claimAt x1 v) = Sum.inl sr2 → (p_L_claimAt_7   sr2 (0 : Int32) v)) ∧ (∀ (e : String), (f_X11_claimAt x1 v) = Sum.inr e → (((e = "java/lang/IndexOutOfBoundsException") → (p_L_claimAt_13    v)) ∧ (¬ (e = "java/lang/IndexOutOfBoundsException") → (False)))))
set_option maxHeartbeats 4000000 in
set_option maxRecDepth 100000 in
theorem w_L_claimAt_0 {E : gE} {d : Nat} {Q : gO → gS → Prop}   (hd : 9 ≤ d) (x1 : Int32) (v : gV) (hp : p_L_claimAt_0   x1 v) (hQ : gqIV Q (f_L_claimAt_0  x1 v)) : gG E m_L_claimAt d Q 1 6 (rS v) 0 [(0, .ref (gX E + 0)), (1, .int x1), (2, .ref (gX E + 570))] [] := by
  refine g_aload_n 2 dL_claimAt_0 rfl ?_
  refine g_iconst dL_claimAt_1 (0 : Int32) (by decide) ?_
  refine g_aload_n 0 dL_claimAt_2 rfl ?_
  refine g_iload_n 1 dL_claimAt_3 rfl ?_
  obtain ⟨h1, hp⟩ := hp
  refine g_callV (rest := [.int ((0 : Int32)), .ref (gX E + 570)]) s_L_79_X11 rfl (c_X11_claimAt (E := E) (d := d - 1)   (by omega) x1 v h1) (by decide : kd 0 = (0, 8)) (show 0 < 572 by decide) rfl rfl (Nat.le_of_ble_eq_true rfl) (by omega) (by decide) (by decide) dL_claimAt_4 (adTI (fun sr2 h3 => ?_)) (axTI (fun e h3 => ?_))
  · have hQ := ql (P := gqIV Q) h3 hQ
    have hp := hp.1 sr2 h3
    refine g_lv (lv' := []) [] rfl ?_
    exact w_L_claimAt_7  hd    sr2 (0 : Int32) v hp hQ
  · have hQ := qe (P := gqIV Q) h3 hQ
    have hp := hp.2 e h3
    by_cases h5 : e = "java/lang/IndexOutOfBoundsException"
    · subst h5
      have hQ := qp (P := gqIV Q) rfl hQ
      have hp := hp.1 rfl
      refine g_catch2 [] (0, 9, 12, 30) [] rfl (fun z hz => absurd hz List.not_mem_nil) (by decide) (by decide) w_937 w_974 (fun q => ?_)
      refine g_astore_n [(3, .ref q), (0, .ref (gX E + 0)), (1, .int x1), (2, .ref (gX E + 570))] dL_claimAt_12 rfl (by decide) rfl ?_
      refine g_lv (lv' := []) [] rfl ?_
      exact w_L_claimAt_13  hd     v hp hQ
    have hQ := qn (P := gqIV Q) h5 hQ
    have hp := hp.2 h5
    exact hp.elim
def f_L_claimAt  (x1 : Int32) (v : gV) : Int32 × gV := f_L_claimAt_0 x1 v
def p_L_claimAt  (x1 : Int32) (v : gV) : Prop := p_L_claimAt_0 x1 v
theorem c_L_claimAt {E : gE} {d : Nat}   (hd : 9 ≤ d) (x1 : Int32) (v : gV) (hp : p_L_claimAt x1 v) : CT E m_L_claimAt d 1 6 [.ref (gX E + 0), .int x1, .ref (gX E + 570)] (rS v) (Cq (.inl (some (.int ((f_L_claimAt x1 v).1)))) (f_L_claimAt x1 v).2) := CT.ofH ok_L_claimAt rfl (Nat.le_of_ble_eq_true rfl) (w_L_claimAt_0  hd x1 v hp ⟨rfl, rfl⟩)
def f_L_policyOf_9   (v : gV) : Int32 × gV := ((0 : Int32), v)
def p_L_policyOf_9   (v : gV) : Prop := True
set_option maxHeartbeats 4000000 in
set_option maxRecDepth 100000 in
theorem w_L_policyOf_9 {E : gE} {d : Nat} {Q : gO → gS → Prop}   (hd : 9 ≤ d)  (v : gV) (hp : p_L_policyOf_9    v) (hQ : gqIV Q (f_L_policyOf_9   v)) : gG E m_L_policyOf d Q 0 0 (rS v) 9 [] [] := by
  refine g_goto 15 dL_policyOf_9 (by decide) ?_
  refine g_iconst dL_policyOf_15 (0 : Int32) (by decide) ?_
  exact g_iret rfl dL_policyOf_16 hQ
def f_L_policyOf_7  (s0 : Int32) (s1 : Int32) (v : gV) : Int32 × gV := f_L_policyOf_9   (vL v 570 s1.toNatClampNeg s0.toInt64)
def p_L_policyOf_7  (s0 : Int32) (s1 : Int32) (v : gV) : Prop := (vp_in s1 1) ∧ (p_L_policyOf_9    (vL v 570 s1.toNatClampNeg s0.toInt64))
set_option maxHeartbeats 4000000 in
set_option maxRecDepth 100000 in
theorem w_L_policyOf_7 {E : gE} {d : Nat} {Q : gO → gS → Prop}   (hd : 9 ≤ d) (s0 : Int32) (s1 : Int32) (v : gV) (hp : p_L_policyOf_7   s0 s1 v) (hQ : gqIV Q (f_L_policyOf_7  s0 s1 v)) : gG E m_L_policyOf d Q 0 0 (rS v) 7 [] [.int s0, .int s1, .ref (gX E + 570)] := by
  refine g_i2l dL_policyOf_7 ?_
  obtain ⟨h4, hp⟩ := hp
  refine r_last (by decide : kd 570 = (3, 1)) (show 570 < 572 by decide) h4 dL_policyOf_8 ?_
  exact w_L_policyOf_9  hd     (vL v 570 s1.toNatClampNeg s0.toInt64) hp hQ
def f_L_policyOf_13   (v : gV) : Int32 × gV := ((1 : Int32), v)
def p_L_policyOf_13   (v : gV) : Prop := True
set_option maxHeartbeats 4000000 in
set_option maxRecDepth 100000 in
theorem w_L_policyOf_13 {E : gE} {d : Nat} {Q : gO → gS → Prop}   (hd : 9 ≤ d)  (v : gV) (hp : p_L_policyOf_13    v) (hQ : gqIV Q (f_L_policyOf_13   v)) : gG E m_L_policyOf d Q 0 0 (rS v) 13 [] [] := by
  refine g_iconst dL_policyOf_13 (1 : Int32) (by decide) ?_
  exact g_iret rfl dL_policyOf_14 hQ
def f_L_policyOf_0  (x1 : Int32) (v : gV) : Int32 × gV := Sum.elim (fun (sr2 : Int32) => f_L_policyOf_7  sr2 (0 : Int32) v) (fun (e : String) => if e = "java/util/NoSuchElementException" then (f_L_policyOf_13   v) else ((0, v))) (f_X11_policyOf x1 v)
def p_L_policyOf_0  (x1 : Int32) (v : gV) : Prop := (p_X11_policyOf x1 v) ∧ ((∀ (sr2 : Int32), (f_X11_policyOf x1 v) = Sum.inl sr2 → (p_L_policyOf_7   sr2 (0 : Int32) v)) ∧ (∀ (e : String), (f_X11_policyOf x1 v) = Sum.inr e → (((e = "java/util/NoSuchElementException") → (p_L_policyOf_13    v)) ∧ (¬ (e = "java/util/NoSuchElementException") → (False)))))
set_option maxHeartbeats 4000000 in
set_option maxRecDepth 100000 in
theorem w_L_policyOf_0 {E : gE} {d : Nat} {Q : gO → gS → Prop}   (hd : 9 ≤ d) (x1 : Int32) (v : gV) (hp : p_L_policyOf_0   x1 v) (hQ : gqIV Q (f_L_policyOf_0  x1 v)) : gG E m_L_policyOf d Q 1 6 (rS v) 0 [(0, .ref (gX E + 0)), (1, .int x1), (2, .ref (gX E + 570))] [] := by
  refine g_aload_n 2 dL_policyOf_0 rfl ?_
  refine g_iconst dL_policyOf_1 (0 : Int32) (by decide) ?_
  refine g_aload_n 0 dL_policyOf_2 rfl ?_
  refine g_iload_n 1 dL_policyOf_3 rfl ?_
  obtain ⟨h1, hp⟩ := hp
  refine g_callV (rest := [.int ((0 : Int32)), .ref (gX E + 570)]) s_L_82_X11 rfl (c_X11_policyOf (E := E) (d := d - 1)   (by omega) x1 v h1) (by decide : kd 0 = (0, 8)) (show 0 < 572 by decide) rfl rfl (Nat.le_of_ble_eq_true rfl) (by omega) (by decide) (by decide) dL_policyOf_4 (adTI (fun sr2 h3 => ?_)) (axTI (fun e h3 => ?_))
  · have hQ := ql (P := gqIV Q) h3 hQ
    have hp := hp.1 sr2 h3
    refine g_lv (lv' := []) [] rfl ?_
    exact w_L_policyOf_7  hd    sr2 (0 : Int32) v hp hQ
  · have hQ := qe (P := gqIV Q) h3 hQ
    have hp := hp.2 e h3
    by_cases h5 : e = "java/util/NoSuchElementException"
    · subst h5
      have hQ := qp (P := gqIV Q) rfl hQ
      have hp := hp.1 rfl
      refine g_catch2 [] (0, 9, 12, 21) [] rfl (fun z hz => absurd hz List.not_mem_nil) (by decide) (by decide) w_860 w_880 (fun q => ?_)
      refine g_astore_n [(3, .ref q), (0, .ref (gX E + 0)), (1, .int x1), (2, .ref (gX E + 570))] dL_policyOf_12 rfl (by decide) rfl ?_
      refine g_lv (lv' := []) [] rfl ?_
      exact w_L_policyOf_13  hd     v hp hQ
    have hQ := qn (P := gqIV Q) h5 hQ
    have hp := hp.2 h5
    exact hp.elim
def f_L_policyOf  (x1 : Int32) (v : gV) : Int32 × gV := f_L_policyOf_0 x1 v
def p_L_policyOf  (x1 : Int32) (v : gV) : Prop := p_L_policyOf_0 x1 v
theorem c_L_policyOf {E : gE} {d : Nat}   (hd : 9 ≤ d) (x1 : Int32) (v : gV) (hp : p_L_policyOf x1 v) : CT E m_L_policyOf d 1 6 [.ref (gX E + 0), .int x1, .ref (gX E + 570)] (rS v) (Cq (.inl (some (.int ((f_L_policyOf x1 v).1)))) (f_L_policyOf x1 v).2) := CT.ofH ok_L_policyOf rfl (Nat.le_of_ble_eq_true rfl) (w_L_policyOf_0  hd x1 v hp ⟨rfl, rfl⟩)
def f_L_causeOf_9   (v : gV) : Int32 × gV := ((0 : Int32), v)
def p_L_causeOf_9   (v : gV) : Prop := True
set_option maxHeartbeats 4000000 in
set_option maxRecDepth 100000 in
theorem w_L_causeOf_9 {E : gE} {d : Nat} {Q : gO → gS → Prop}   (hd : 9 ≤ d)  (v : gV) (hp : p_L_causeOf_9    v) (hQ : gqIV Q (f_L_causeOf_9   v)) : gG E m_L_causeOf d Q 0 0 (rS v) 9 [] [] := by
  refine g_goto 15 dL_causeOf_9 (by decide) ?_
  refine g_iconst dL_causeOf_15 (0 : Int32) (by decide) ?_
  exact g_iret rfl dL_causeOf_16 hQ
def f_L_causeOf_7  (s0 : Int32) (s1 : Int32) (v : gV) : Int32 × gV := f_L_causeOf_9   (vL v 570 s1.toNatClampNeg s0.toInt64)
def p_L_causeOf_7  (s0 : Int32) (s1 : Int32) (v : gV) : Prop := (vp_in s1 1) ∧ (p_L_causeOf_9    (vL v 570 s1.toNatClampNeg s0.toInt64))
set_option maxHeartbeats 4000000 in
set_option maxRecDepth 100000 in
theorem w_L_causeOf_7 {E : gE} {d : Nat} {Q : gO → gS → Prop}   (hd : 9 ≤ d) (s0 : Int32) (s1 : Int32) (v : gV) (hp : p_L_causeOf_7   s0 s1 v) (hQ : gqIV Q (f_L_causeOf_7  s0 s1 v)) : gG E m_L_causeOf d Q 0 0 (rS v) 7 [] [.int s0, .int s1, .ref (gX E + 570)] := by
  refine g_i2l dL_causeOf_7 ?_
  obtain ⟨h4, hp⟩ := hp
  refine r_last (by decide : kd 570 = (3, 1)) (show 570 < 572 by decide) h4 dL_causeOf_8 ?_
  exact w_L_causeOf_9  hd     (vL v 570 s1.toNatClampNeg s0.toInt64) hp hQ
def f_L_causeOf_13   (v : gV) : Int32 × gV := ((1 : Int32), v)
def p_L_causeOf_13   (v : gV) : Prop := True
set_option maxHeartbeats 4000000 in
set_option maxRecDepth 100000 in
theorem w_L_causeOf_13 {E : gE} {d : Nat} {Q : gO → gS → Prop}   (hd : 9 ≤ d)  (v : gV) (hp : p_L_causeOf_13    v) (hQ : gqIV Q (f_L_causeOf_13   v)) : gG E m_L_causeOf d Q 0 0 (rS v) 13 [] [] := by
  refine g_iconst dL_causeOf_13 (1 : Int32) (by decide) ?_
  exact g_iret rfl dL_causeOf_14 hQ
def f_L_causeOf_0  (x1 : Int32) (v : gV) : Int32 × gV := Sum.elim (fun (sr2 : Int32) => f_L_causeOf_7  sr2 (0 : Int32) v) (fun (e : String) => if e = "java/util/NoSuchElementException" then (f_L_causeOf_13   v) else ((0, v))) (f_X11_causeOf x1 v)
def p_L_causeOf_0  (x1 : Int32) (v : gV) : Prop := (p_X11_causeOf x1 v) ∧ ((∀ (sr2 : Int32), (f_X11_causeOf x1 v) = Sum.inl sr2 → (p_L_causeOf_7   sr2 (0 : Int32) v)) ∧ (∀ (e : String), (f_X11_causeOf x1 v) = Sum.inr e → (((e = "java/util/NoSuchElementException") → (p_L_causeOf_13    v)) ∧ (¬ (e = "java/util/NoSuchElementException") → (False)))))
set_option maxHeartbeats 4000000 in
set_option maxRecDepth 100000 in
theorem w_L_causeOf_0 {E : gE} {d : Nat} {Q : gO → gS → Prop}   (hd : 9 ≤ d) (x1 : Int32) (v : gV) (hp : p_L_causeOf_0   x1 v) (hQ : gqIV Q (f_L_causeOf_0  x1 v)) : gG E m_L_causeOf d Q 1 6 (rS v) 0 [(0, .ref (gX E + 0)), (1, .int x1), (2, .ref (gX E + 570))] [] := by
  refine g_aload_n 2 dL_causeOf_0 rfl ?_
  refine g_iconst dL_causeOf_1 (0 : Int32) (by decide) ?_
  refine g_aload_n 0 dL_causeOf_2 rfl ?_
  refine g_iload_n 1 dL_causeOf_3 rfl ?_
  obtain ⟨h1, hp⟩ := hp
  refine g_callV (rest := [.int ((0 : Int32)), .ref (gX E + 570)]) s_L_85_X11 rfl (c_X11_causeOf (E := E) (d := d - 1)   (by omega) x1 v h1) (by decide : kd 0 = (0, 8)) (show 0 < 572 by decide) rfl rfl (Nat.le_of_ble_eq_true rfl) (by omega) (by decide) (by decide) dL_causeOf_4 (adTI (fun sr2 h3 => ?_)) (axTI (fun e h3 => ?_))
  · have hQ := ql (P := gqIV Q) h3 hQ
    have hp := hp.1 sr2 h3
    refine g_lv (lv' := []) [] rfl ?_
    exact w_L_causeOf_7  hd    sr2 (0 : Int32) v hp hQ
  · have hQ := qe (P := gqIV Q) h3 hQ
    have hp := hp.2 e h3
    by_cases h5 : e = "java/util/NoSuchElementException"
    · subst h5
      have hQ := qp (P := gqIV Q) rfl hQ
      have hp := hp.1 rfl
      refine g_catch2 [] (0, 9, 12, 21) [] rfl (fun z hz => absurd hz List.not_mem_nil) (by decide) (by decide) w_860 w_880 (fun q => ?_)
      refine g_astore_n [(3, .ref q), (0, .ref (gX E + 0)), (1, .int x1), (2, .ref (gX E + 570))] dL_causeOf_12 rfl (by decide) rfl ?_
      refine g_lv (lv' := []) [] rfl ?_
      exact w_L_causeOf_13  hd     v hp hQ
    have hQ := qn (P := gqIV Q) h5 hQ
    have hp := hp.2 h5
    exact hp.elim
def f_L_causeOf  (x1 : Int32) (v : gV) : Int32 × gV := f_L_causeOf_0 x1 v
def p_L_causeOf  (x1 : Int32) (v : gV) : Prop := p_L_causeOf_0 x1 v
theorem c_L_causeOf {E : gE} {d : Nat}   (hd : 9 ≤ d) (x1 : Int32) (v : gV) (hp : p_L_causeOf x1 v) : CT E m_L_causeOf d 1 6 [.ref (gX E + 0), .int x1, .ref (gX E + 570)] (rS v) (Cq (.inl (some (.int ((f_L_causeOf x1 v).1)))) (f_L_causeOf x1 v).2) := CT.ofH ok_L_causeOf rfl (Nat.le_of_ble_eq_true rfl) (w_L_causeOf_0  hd x1 v hp ⟨rfl, rfl⟩)
def f_L_amountOf_9   (v : gV) : Int32 × gV := ((0 : Int32), v)
def p_L_amountOf_9   (v : gV) : Prop := True
set_option maxHeartbeats 4000000 in
set_option maxRecDepth 100000 in
theorem w_L_amountOf_9 {E : gE} {d : Nat} {Q : gO → gS → Prop}   (hd : 9 ≤ d)  (v : gV) (hp : p_L_amountOf_9    v) (hQ : gqIV Q (f_L_amountOf_9   v)) : gG E m_L_amountOf d Q 0 0 (rS v) 9 [] [] := by
  refine g_goto 15 dL_amountOf_9 (by decide) ?_
  refine g_iconst dL_amountOf_15 (0 : Int32) (by decide) ?_
  exact g_iret rfl dL_amountOf_16 hQ
def f_L_amountOf_7  (s0 : Int32) (s1 : Int32) (v : gV) : Int32 × gV := f_L_amountOf_9   (vL v 570 s1.toNatClampNeg s0.toInt64)
def p_L_amountOf_7  (s0 : Int32) (s1 : Int32) (v : gV) : Prop := (vp_in s1 1) ∧ (p_L_amountOf_9    (vL v 570 s1.toNatClampNeg s0.toInt64))
set_option maxHeartbeats 4000000 in
set_option maxRecDepth 100000 in
theorem w_L_amountOf_7 {E : gE} {d : Nat} {Q : gO → gS → Prop}   (hd : 9 ≤ d) (s0 : Int32) (s1 : Int32) (v : gV) (hp : p_L_amountOf_7   s0 s1 v) (hQ : gqIV Q (f_L_amountOf_7  s0 s1 v)) : gG E m_L_amountOf d Q 0 0 (rS v) 7 [] [.int s0, .int s1, .ref (gX E + 570)] := by
  refine g_i2l dL_amountOf_7 ?_
  obtain ⟨h4, hp⟩ := hp
  refine r_last (by decide : kd 570 = (3, 1)) (show 570 < 572 by decide) h4 dL_amountOf_8 ?_
  exact w_L_amountOf_9  hd     (vL v 570 s1.toNatClampNeg s0.toInt64) hp hQ
def f_L_amountOf_13   (v : gV) : Int32 × gV := ((1 : Int32), v)
def p_L_amountOf_13   (v : gV) : Prop := True
set_option maxHeartbeats 4000000 in
set_option maxRecDepth 100000 in
theorem w_L_amountOf_13 {E : gE} {d : Nat} {Q : gO → gS → Prop}   (hd : 9 ≤ d)  (v : gV) (hp : p_L_amountOf_13    v) (hQ : gqIV Q (f_L_amountOf_13   v)) : gG E m_L_amountOf d Q 0 0 (rS v) 13 [] [] := by
  refine g_iconst dL_amountOf_13 (1 : Int32) (by decide) ?_
  exact g_iret rfl dL_amountOf_14 hQ
def f_L_amountOf_0  (x1 : Int32) (v : gV) : Int32 × gV := Sum.elim (fun (sr2 : Int32) => f_L_amountOf_7  sr2 (0 : Int32) v) (fun (e : String) => if e = "java/util/NoSuchElementException" then (f_L_amountOf_13   v) else ((0, v))) (f_X11_amountOf x1 v)
def p_L_amountOf_0  (x1 : Int32) (v : gV) : Prop := (p_X11_amountOf x1 v) ∧ ((∀ (sr2 : Int32), (f_X11_amountOf x1 v) = Sum.inl sr2 → (p_L_amountOf_7   sr2 (0 : Int32) v)) ∧ (∀ (e : String), (f_X11_amountOf x1 v) = Sum.inr e → (((e = "java/util/NoSuchElementException") → (p_L_amountOf_13    v)) ∧ (¬ (e = "java/util/NoSuchElementException") → (False)))))
set_option maxHeartbeats 4000000 in
set_option maxRecDepth 100000 in
theorem w_L_amountOf_0 {E : gE} {d : Nat} {Q : gO → gS → Prop}   (hd : 9 ≤ d) (x1 : Int32) (v : gV) (hp : p_L_amountOf_0   x1 v) (hQ : gqIV Q (f_L_amountOf_0  x1 v)) : gG E m_L_amountOf d Q 1 6 (rS v) 0 [(0, .ref (gX E + 0)), (1, .int x1), (2, .ref (gX E + 570))] [] := by
  refine g_aload_n 2 dL_amountOf_0 rfl ?_
  refine g_iconst dL_amountOf_1 (0 : Int32) (by decide) ?_
  refine g_aload_n 0 dL_amountOf_2 rfl ?_
  refine g_iload_n 1 dL_amountOf_3 rfl ?_
  obtain ⟨h1, hp⟩ := hp
  refine g_callV (rest := [.int ((0 : Int32)), .ref (gX E + 570)]) s_L_89_X11 rfl (c_X11_amountOf (E := E) (d := d - 1)   (by omega) x1 v h1) (by decide : kd 0 = (0, 8)) (show 0 < 572 by decide) rfl rfl (Nat.le_of_ble_eq_true rfl) (by omega) (by decide) (by decide) dL_amountOf_4 (adTI (fun sr2 h3 => ?_)) (axTI (fun e h3 => ?_))
  · have hQ := ql (P := gqIV Q) h3 hQ
    have hp := hp.1 sr2 h3
    refine g_lv (lv' := []) [] rfl ?_
    exact w_L_amountOf_7  hd    sr2 (0 : Int32) v hp hQ
  · have hQ := qe (P := gqIV Q) h3 hQ
    have hp := hp.2 e h3
    by_cases h5 : e = "java/util/NoSuchElementException"
    · subst h5
      have hQ := qp (P := gqIV Q) rfl hQ
      have hp := hp.1 rfl
      refine g_catch2 [] (0, 9, 12, 21) [] rfl (fun z hz => absurd hz List.not_mem_nil) (by decide) (by decide) w_860 w_880 (fun q => ?_)
      refine g_astore_n [(3, .ref q), (0, .ref (gX E + 0)), (1, .int x1), (2, .ref (gX E + 570))] dL_amountOf_12 rfl (by decide) rfl ?_
      refine g_lv (lv' := []) [] rfl ?_
      exact w_L_amountOf_13  hd     v hp hQ
    have hQ := qn (P := gqIV Q) h5 hQ
    have hp := hp.2 h5
    exact hp.elim
def f_L_amountOf  (x1 : Int32) (v : gV) : Int32 × gV := f_L_amountOf_0 x1 v
def p_L_amountOf  (x1 : Int32) (v : gV) : Prop := p_L_amountOf_0 x1 v
theorem c_L_amountOf {E : gE} {d : Nat}   (hd : 9 ≤ d) (x1 : Int32) (v : gV) (hp : p_L_amountOf x1 v) : CT E m_L_amountOf d 1 6 [.ref (gX E + 0), .int x1, .ref (gX E + 570)] (rS v) (Cq (.inl (some (.int ((f_L_amountOf x1 v).1)))) (f_L_amountOf x1 v).2) := CT.ofH ok_L_amountOf rfl (Nat.le_of_ble_eq_true rfl) (w_L_amountOf_0  hd x1 v hp ⟨rfl, rfl⟩)
def f_L_paidOf_9   (v : gV) : Int32 × gV := ((0 : Int32), v)
def p_L_paidOf_9   (v : gV) : Prop := True
set_option maxHeartbeats 4000000 in
set_option maxRecDepth 100000 in
theorem w_L_paidOf_9 {E : gE} {d : Nat} {Q : gO → gS → Prop}   (hd : 9 ≤ d)  (v : gV) (hp : p_L_paidOf_9    v) (hQ : gqIV Q (f_L_paidOf_9   v)) : gG E m_L_paidOf d Q 0 0 (rS v) 9 [] [] := by
  refine g_goto 15 dL_paidOf_9 (by decide) ?_
  refine g_iconst dL_paidOf_15 (0 : Int32) (by decide) ?_
  exact g_iret rfl dL_paidOf_16 hQ
def f_L_paidOf_7  (s0 : Int32) (s1 : Int32) (v : gV) : Int32 × gV := f_L_paidOf_9   (vL v 570 s1.toNatClampNeg s0.toInt64)
def p_L_paidOf_7  (s0 : Int32) (s1 : Int32) (v : gV) : Prop := (vp_in s1 1) ∧ (p_L_paidOf_9    (vL v 570 s1.toNatClampNeg s0.toInt64))
set_option maxHeartbeats 4000000 in
set_option maxRecDepth 100000 in
theorem w_L_paidOf_7 {E : gE} {d : Nat} {Q : gO → gS → Prop}   (hd : 9 ≤ d) (s0 : Int32) (s1 : Int32) (v : gV) (hp : p_L_paidOf_7   s0 s1 v) (hQ : gqIV Q (f_L_paidOf_7  s0 s1 v)) : gG E m_L_paidOf d Q 0 0 (rS v) 7 [] [.int s0, .int s1, .ref (gX E + 570)] := by
  refine g_i2l dL_paidOf_7 ?_
  obtain ⟨h4, hp⟩ := hp
  refine r_last (by decide : kd 570 = (3, 1)) (show 570 < 572 by decide) h4 dL_paidOf_8 ?_
  exact w_L_paidOf_9  hd     (vL v 570 s1.toNatClampNeg s0.toInt64) hp hQ
def f_L_paidOf_13   (v : gV) : Int32 × gV := ((1 : Int32), v)
def p_L_paidOf_13   (v : gV) : Prop := True
set_option maxHeartbeats 4000000 in
set_option maxRecDepth 100000 in
theorem w_L_paidOf_13 {E : gE} {d : Nat} {Q : gO → gS → Prop}   (hd : 9 ≤ d)  (v : gV) (hp : p_L_paidOf_13    v) (hQ : gqIV Q (f_L_paidOf_13   v)) : gG E m_L_paidOf d Q 0 0 (rS v) 13 [] [] := by
  refine g_iconst dL_paidOf_13 (1 : Int32) (by decide) ?_
  exact g_iret rfl dL_paidOf_14 hQ
def f_L_paidOf_0  (x1 : Int32) (v : gV) : Int32 × gV := Sum.elim (fun (sr2 : Int32) => f_L_paidOf_7  sr2 (0 : Int32) v) (fun (e : String) => if e = "java/util/NoSuchElementException" then (f_L_paidOf_13   v) else ((0, v))) (f_X11_paidOf x1 v)
def p_L_paidOf_0  (x1 : Int32) (v : gV) : Prop := (p_X11_paidOf x1 v) ∧ ((∀ (sr2 : Int32), (f_X11_paidOf x1 v) = Sum.inl sr2 → (p_L_paidOf_7   sr2 (0 : Int32) v)) ∧ (∀ (e : String), (f_X11_paidOf x1 v) = Sum.inr e → (((e = "java/util/NoSuchElementException") → (p_L_paidOf_13    v)) ∧ (¬ (e = "java/util/NoSuchElementException") → (False)))))
set_option maxHeartbeats 4000000 in
set_option maxRecDepth 100000 in
theorem w_L_paidOf_0 {E : gE} {d : Nat} {Q : gO → gS → Prop}   (hd : 9 ≤ d) (x1 : Int32) (v : gV) (hp : p_L_paidOf_0   x1 v) (hQ : gqIV Q (f_L_paidOf_0  x1 v)) : gG E m_L_paidOf d Q 1 6 (rS v) 0 [(0, .ref (gX E + 0)), (1, .int x1), (2, .ref (gX E + 570))] [] := by
  refine g_aload_n 2 dL_paidOf_0 rfl ?_
  refine g_iconst dL_paidOf_1 (0 : Int32) (by decide) ?_
  refine g_aload_n 0 dL_paidOf_2 rfl ?_
  refine g_iload_n 1 dL_paidOf_3 rfl ?_
  obtain ⟨h1, hp⟩ := hp
  refine g_callV (rest := [.int ((0 : Int32)), .ref (gX E + 570)]) s_L_92_X11 rfl (c_X11_paidOf (E := E) (d := d - 1)   (by omega) x1 v h1) (by decide : kd 0 = (0, 8)) (show 0 < 572 by decide) rfl rfl (Nat.le_of_ble_eq_true rfl) (by omega) (by decide) (by decide) dL_paidOf_4 (adTI (fun sr2 h3 => ?_)) (axTI (fun e h3 => ?_))
  · have hQ := ql (P := gqIV Q) h3 hQ
    have hp := hp.1 sr2 h3
    refine g_lv (lv' := []) [] rfl ?_
    exact w_L_paidOf_7  hd    sr2 (0 : Int32) v hp hQ
  · have hQ := qe (P := gqIV Q) h3 hQ
    have hp := hp.2 e h3
    by_cases h5 : e = "java/util/NoSuchElementException"
    · subst h5
      have hQ := qp (P := gqIV Q) rfl hQ
      have hp := hp.1 rfl
      refine g_catch2 [] (0, 9, 12, 21) [] rfl (fun z hz => absurd hz List.not_mem_nil) (by decide) (by decide) w_860 w_880 (fun q => ?_)
      refine g_astore_n [(3, .ref q), (0, .ref (gX E + 0)), (1, .int x1), (2, .ref (gX E + 570))] dL_paidOf_12 rfl (by decide) rfl ?_
      refine g_lv (lv' := []) [] rfl ?_
      exact w_L_paidOf_13  hd     v hp hQ
    have hQ := qn (P := gqIV Q) h5 hQ
    have hp := hp.2 h5
    exact hp.elim
def f_L_paidOf  (x1 : Int32) (v : gV) : Int32 × gV := f_L_paidOf_0 x1 v
def p_L_paidOf  (x1 : Int32) (v : gV) : Prop := p_L_paidOf_0 x1 v
theorem c_L_paidOf {E : gE} {d : Nat}   (hd : 9 ≤ d) (x1 : Int32) (v : gV) (hp : p_L_paidOf x1 v) : CT E m_L_paidOf d 1 6 [.ref (gX E + 0), .int x1, .ref (gX E + 570)] (rS v) (Cq (.inl (some (.int ((f_L_paidOf x1 v).1)))) (f_L_paidOf x1 v).2) := CT.ofH ok_L_paidOf rfl (Nat.le_of_ble_eq_true rfl) (w_L_paidOf_0  hd x1 v hp ⟨rfl, rfl⟩)
def f_L_borneBy_10   (v : gV) : Int32 × gV := ((0 : Int32), v)
def p_L_borneBy_10   (v : gV) : Prop := True
set_option maxHeartbeats 4000000 in
set_option maxRecDepth 100000 in
theorem w_L_borneBy_10 {E : gE} {d : Nat} {Q : gO → gS → Prop}   (hd : 9 ≤ d)  (v : gV) (hp : p_L_borneBy_10    v) (hQ : gqIV Q (f_L_borneBy_10   v)) : gG E m_L_borneBy d Q 0 0 (rS v) 10 [] [] := by
  refine g_goto 21 dL_borneBy_10 (by decide) ?_
  refine g_iconst dL_borneBy_21 (0 : Int32) (by decide) ?_
  exact g_iret rfl dL_borneBy_22 hQ
def f_L_borneBy_8  (s0 : Int32) (s1 : Int32) (v : gV) : Int32 × gV := f_L_borneBy_10   (vL v 570 s1.toNatClampNeg s0.toInt64)
def p_L_borneBy_8  (s0 : Int32) (s1 : Int32) (v : gV) : Prop := (vp_in s1 1) ∧ (p_L_borneBy_10    (vL v 570 s1.toNatClampNeg s0.toInt64))
set_option maxHeartbeats 4000000 in
set_option maxRecDepth 100000 in
theorem w_L_borneBy_8 {E : gE} {d : Nat} {Q : gO → gS → Prop}   (hd : 9 ≤ d) (s0 : Int32) (s1 : Int32) (v : gV) (hp : p_L_borneBy_8   s0 s1 v) (hQ : gqIV Q (f_L_borneBy_8  s0 s1 v)) : gG E m_L_borneBy d Q 0 0 (rS v) 8 [] [.int s0, .int s1, .ref (gX E + 570)] := by
  refine g_i2l dL_borneBy_8 ?_
  obtain ⟨h4, hp⟩ := hp
  refine r_last (by decide : kd 570 = (3, 1)) (show 570 < 572 by decide) h4 dL_borneBy_9 ?_
  exact w_L_borneBy_10  hd     (vL v 570 s1.toNatClampNeg s0.toInt64) hp hQ
def f_L_borneBy_15   (v : gV) : Int32 × gV := ((1 : Int32), v)
def p_L_borneBy_15   (v : gV) : Prop := True
set_option maxHeartbeats 4000000 in
set_option maxRecDepth 100000 in
theorem w_L_borneBy_15 {E : gE} {d : Nat} {Q : gO → gS → Prop}   (hd : 9 ≤ d)  (v : gV) (hp : p_L_borneBy_15    v) (hQ : gqIV Q (f_L_borneBy_15   v)) : gG E m_L_borneBy d Q 0 0 (rS v) 15 [] [] := by
  refine g_iconst dL_borneBy_15 (1 : Int32) (by decide) ?_
  exact g_iret rfl dL_borneBy_16 hQ
def f_L_borneBy_19   (v : gV) : Int32 × gV := ((2 : Int32), v)
def p_L_borneBy_19   (v : gV) : Prop := True
set_option maxHeartbeats 4000000 in
set_option maxRecDepth 100000 in
theorem w_L_borneBy_19 {E : gE} {d : Nat} {Q : gO → gS → Prop}   (hd : 9 ≤ d)  (v : gV) (hp : p_L_borneBy_19    v) (hQ : gqIV Q (f_L_borneBy_19   v)) : gG E m_L_borneBy d Q 0 0 (rS v) 19 [] [] := by
  refine g_iconst dL_borneBy_19 (2 : Int32) (by decide) ?_
  exact g_iret rfl dL_borneBy_20 hQ
def f_L_borneBy_0  (x1 : Int32) (x2 : Int32) (v : gV) : Int32 × gV := Sum.elim (fun (sr2 : Int32) => f_L_borneBy_8  sr2 (0 : Int32) v) (fun (e : String) => if e = "java/util/NoSuchElementException" then (f_L_borneBy_15   v) else (if e = "java/lang/IndexOutOfBoundsException" then (f_L_borneBy_19   v) else ((0, v)))) (f_X11_borneBy x1 x2 v)
def p_L_borneBy_0  (x1 : Int32) (x2 : Int32) (v : gV) : Prop := (p_X11_borneBy x1 x2 v) ∧ ((∀ (sr2 : Int32), (f_X11_borneBy x1 x2 v) = Sum.inl sr2 → (p_L_borneBy_8   sr2 (0 : Int32) v)) ∧ (∀ (e : String), (f_X11_borneBy x1 x2 v) = Sum.inr e → (((e = "java/util/NoSuchElementException") → (p_L_borneBy_15    v)) ∧ (¬ (e = "java/util/NoSuchElementException") → (((e = "java/lang/IndexOutOfBoundsException") → (p_L_borneBy_19    v)) ∧ (¬ (e = "java/lang/IndexOutOfBoundsException") → (False)))))))
set_option maxHeartbeats 4000000 in
set_option maxRecDepth 100000 in
theorem w_L_borneBy_0 {E : gE} {d : Nat} {Q : gO → gS → Prop}   (hd : 9 ≤ d) (x1 : Int32) (x2 : Int32) (v : gV) (hp : p_L_borneBy_0   x1 x2 v) (hQ : gqIV Q (f_L_borneBy_0  x1 x2 v)) : gG E m_L_borneBy d Q 2 12 (rS v) 0 [(0, .ref (gX E + 0)), (1, .int x1), (2, .int x2), (3, .ref (gX E + 570))] [] := by
  refine g_aload_n 3 dL_borneBy_0 rfl ?_
  refine g_iconst dL_borneBy_1 (0 : Int32) (by decide) ?_
  refine g_aload_n 0 dL_borneBy_2 rfl ?_
  refine g_iload_n 1 dL_borneBy_3 rfl ?_
  refine g_iload_n 2 dL_borneBy_4 rfl ?_
  obtain ⟨h1, hp⟩ := hp
  refine g_callV (rest := [.int ((0 : Int32)), .ref (gX E + 570)]) s_L_95_X11 rfl (c_X11_borneBy (E := E) (d := d - 1)   (by omega) x1 x2 v h1) (by decide : kd 0 = (0, 8)) (show 0 < 572 by decide) rfl rfl (Nat.le_of_ble_eq_true rfl) (by omega) (by decide) (by decide) dL_borneBy_5 (adTI (fun sr2 h3 => ?_)) (axTI (fun e h3 => ?_))
  · have hQ := ql (P := gqIV Q) h3 hQ
    have hp := hp.1 sr2 h3
    refine g_lv (lv' := []) [] rfl ?_
    exact w_L_borneBy_8  hd    sr2 (0 : Int32) v hp hQ
  · have hQ := qe (P := gqIV Q) h3 hQ
    have hp := hp.2 e h3
    by_cases h5 : e = "java/util/NoSuchElementException"
    · subst h5
      have hQ := qp (P := gqIV Q) rfl hQ
      have hp := hp.1 rfl
      refine g_catch2 [] (0, 10, 13, 21) [(0, 10, 17, 30)] rfl (fun z hz => absurd hz List.not_mem_nil) (by decide) (by decide) w_860 w_880 (fun q => ?_)
      refine g_astore [(4, .ref q), (0, .ref (gX E + 0)), (1, .int x1), (2, .int x2), (3, .ref (gX E + 570))] dL_borneBy_13 (by decide) rfl ?_
      refine g_lv (lv' := []) [] rfl ?_
      exact w_L_borneBy_15  hd     v hp hQ
    have hQ := qn (P := gqIV Q) h5 hQ
    have hp := hp.2 h5
    by_cases h6 : e = "java/lang/IndexOutOfBoundsException"
    · subst h6
      have hQ := qp (P := gqIV Q) rfl hQ
      have hp := hp.1 rfl
      refine g_catch2 [(0, 10, 13, 21)] (0, 10, 17, 30) [] rfl (List.forall_mem_cons.mpr ⟨⟨by decide, "java/util/NoSuchElementException", w_860, fun s hK => gnc (by decide +kernel) hK⟩, (fun z hz => absurd hz List.not_mem_nil)⟩) (by decide) (by decide) w_937 w_974 (fun q => ?_)
      refine g_astore [(4, .ref q), (0, .ref (gX E + 0)), (1, .int x1), (2, .int x2), (3, .ref (gX E + 570))] dL_borneBy_17 (by decide) rfl ?_
      refine g_lv (lv' := []) [] rfl ?_
      exact w_L_borneBy_19  hd     v hp hQ
    have hQ := qn (P := gqIV Q) h6 hQ
    have hp := hp.2 h6
    exact hp.elim
def f_L_borneBy  (x1 : Int32) (x2 : Int32) (v : gV) : Int32 × gV := f_L_borneBy_0 x1 x2 v
def p_L_borneBy  (x1 : Int32) (x2 : Int32) (v : gV) : Prop := p_L_borneBy_0 x1 x2 v
theorem c_L_borneBy {E : gE} {d : Nat}   (hd : 9 ≤ d) (x1 : Int32) (x2 : Int32) (v : gV) (hp : p_L_borneBy x1 x2 v) : CT E m_L_borneBy d 2 12 [.ref (gX E + 0), .int x1, .int x2, .ref (gX E + 570)] (rS v) (Cq (.inl (some (.int ((f_L_borneBy x1 x2 v).1)))) (f_L_borneBy x1 x2 v).2) := CT.ofH ok_L_borneBy rfl (Nat.le_of_ble_eq_true rfl) (w_L_borneBy_0  hd x1 x2 v hp ⟨rfl, rfl⟩)
def f_L_ownPart_9   (v : gV) : Int32 × gV := ((0 : Int32), v)
def p_L_ownPart_9   (v : gV) : Prop := True
set_option maxHeartbeats 4000000 in
set_option maxRecDepth 100000 in
theorem w_L_ownPart_9 {E : gE} {d : Nat} {Q : gO → gS → Prop}   (hd : 9 ≤ d)  (v : gV) (hp : p_L_ownPart_9    v) (hQ : gqIV Q (f_L_ownPart_9   v)) : gG E m_L_ownPart d Q 0 0 (rS v) 9 [] [] := by
  refine g_goto 15 dL_ownPart_9 (by decide) ?_
  refine g_iconst dL_ownPart_15 (0 : Int32) (by decide) ?_
  exact g_iret rfl dL_ownPart_16 hQ
def f_L_ownPart_7  (s0 : Int32) (s1 : Int32) (v : gV) : Int32 × gV := f_L_ownPart_9   (vL v 570 s1.toNatClampNeg s0.toInt64)
def p_L_ownPart_7  (s0 : Int32) (s1 : Int32) (v : gV) : Prop := (vp_in s1 1) ∧ (p_L_ownPart_9    (vL v 570 s1.toNatClampNeg s0.toInt64))
set_option maxHeartbeats 4000000 in
set_option maxRecDepth 100000 in
theorem w_L_ownPart_7 {E : gE} {d : Nat} {Q : gO → gS → Prop}   (hd : 9 ≤ d) (s0 : Int32) (s1 : Int32) (v : gV) (hp : p_L_ownPart_7   s0 s1 v) (hQ : gqIV Q (f_L_ownPart_7  s0 s1 v)) : gG E m_L_ownPart d Q 0 0 (rS v) 7 [] [.int s0, .int s1, .ref (gX E + 570)] := by
  refine g_i2l dL_ownPart_7 ?_
  obtain ⟨h4, hp⟩ := hp
  refine r_last (by decide : kd 570 = (3, 1)) (show 570 < 572 by decide) h4 dL_ownPart_8 ?_
  exact w_L_ownPart_9  hd     (vL v 570 s1.toNatClampNeg s0.toInt64) hp hQ
def f_L_ownPart_13   (v : gV) : Int32 × gV := ((1 : Int32), v)
def p_L_ownPart_13   (v : gV) : Prop := True
set_option maxHeartbeats 4000000 in
set_option maxRecDepth 100000 in
theorem w_L_ownPart_13 {E : gE} {d : Nat} {Q : gO → gS → Prop}   (hd : 9 ≤ d)  (v : gV) (hp : p_L_ownPart_13    v) (hQ : gqIV Q (f_L_ownPart_13   v)) : gG E m_L_ownPart d Q 0 0 (rS v) 13 [] [] := by
  refine g_iconst dL_ownPart_13 (1 : Int32) (by decide) ?_
  exact g_iret rfl dL_ownPart_14 hQ
def f_L_ownPart_0  (x1 : Int32) (v : gV) : Int32 × gV := Sum.elim (fun (sr2 : Int32) => f_L_ownPart_7  sr2 (0 : Int32) v) (fun (e : String) => if e = "java/util/NoSuchElementException" then (f_L_ownPart_13   v) else ((0, v))) (f_X11_ownPart x1 v)
def p_L_ownPart_0  (x1 : Int32) (v : gV) : Prop := (p_X11_ownPart x1 v) ∧ ((∀ (sr2 : Int32), (f_X11_ownPart x1 v) = Sum.inl sr2 → (p_L_ownPart_7   sr2 (0 : Int32) v)) ∧ (∀ (e : String), (f_X11_ownPart x1 v) = Sum.inr e → (((e = "java/util/NoSuchElementException") → (p_L_ownPart_13    v)) ∧ (¬ (e = "java/util/NoSuchElementException") → (False)))))
set_option maxHeartbeats 4000000 in
set_option maxRecDepth 100000 in
theorem w_L_ownPart_0 {E : gE} {d : Nat} {Q : gO → gS → Prop}   (hd : 9 ≤ d) (x1 : Int32) (v : gV) (hp : p_L_ownPart_0   x1 v) (hQ : gqIV Q (f_L_ownPart_0  x1 v)) : gG E m_L_ownPart d Q 1 6 (rS v) 0 [(0, .ref (gX E + 0)), (1, .int x1), (2, .ref (gX E + 570))] [] := by
  refine g_aload_n 2 dL_ownPart_0 rfl ?_
  refine g_iconst dL_ownPart_1 (0 : Int32) (by decide) ?_
  refine g_aload_n 0 dL_ownPart_2 rfl ?_
  refine g_iload_n 1 dL_ownPart_3 rfl ?_
  obtain ⟨h1, hp⟩ := hp
  refine g_callV (rest := [.int ((0 : Int32)), .ref (gX E + 570)]) s_L_98_X11 rfl (c_X11_ownPart (E := E) (d := d - 1)   (by omega) x1 v h1) (by decide : kd 0 = (0, 8)) (show 0 < 572 by decide) rfl rfl (Nat.le_of_ble_eq_true rfl) (by omega) (by decide) (by decide) dL_ownPart_4 (adTI (fun sr2 h3 => ?_)) (axTI (fun e h3 => ?_))
  · have hQ := ql (P := gqIV Q) h3 hQ
    have hp := hp.1 sr2 h3
    refine g_lv (lv' := []) [] rfl ?_
    exact w_L_ownPart_7  hd    sr2 (0 : Int32) v hp hQ
  · have hQ := qe (P := gqIV Q) h3 hQ
    have hp := hp.2 e h3
    by_cases h5 : e = "java/util/NoSuchElementException"
    · subst h5
      have hQ := qp (P := gqIV Q) rfl hQ
      have hp := hp.1 rfl
      refine g_catch2 [] (0, 9, 12, 21) [] rfl (fun z hz => absurd hz List.not_mem_nil) (by decide) (by decide) w_860 w_880 (fun q => ?_)
      refine g_astore_n [(3, .ref q), (0, .ref (gX E + 0)), (1, .int x1), (2, .ref (gX E + 570))] dL_ownPart_12 rfl (by decide) rfl ?_
      refine g_lv (lv' := []) [] rfl ?_
      exact w_L_ownPart_13  hd     v hp hQ
    have hQ := qn (P := gqIV Q) h5 hQ
    have hp := hp.2 h5
    exact hp.elim
def f_L_ownPart  (x1 : Int32) (v : gV) : Int32 × gV := f_L_ownPart_0 x1 v
def p_L_ownPart  (x1 : Int32) (v : gV) : Prop := p_L_ownPart_0 x1 v
theorem c_L_ownPart {E : gE} {d : Nat}   (hd : 9 ≤ d) (x1 : Int32) (v : gV) (hp : p_L_ownPart x1 v) : CT E m_L_ownPart d 1 6 [.ref (gX E + 0), .int x1, .ref (gX E + 570)] (rS v) (Cq (.inl (some (.int ((f_L_ownPart x1 v).1)))) (f_L_ownPart x1 v).2) := CT.ofH ok_L_ownPart rfl (Nat.le_of_ble_eq_true rfl) (w_L_ownPart_0  hd x1 v hp ⟨rfl, rfl⟩)
def f_L_recovered_9   (v : gV) : Int32 × gV := ((0 : Int32), v)
def p_L_recovered_9   (v : gV) : Prop := True
set_option maxHeartbeats 4000000 in
set_option maxRecDepth 100000 in
theorem w_L_recovered_9 {E : gE} {d : Nat} {Q : gO → gS → Prop}   (hd : 9 ≤ d)  (v : gV) (hp : p_L_recovered_9    v) (hQ : gqIV Q (f_L_recovered_9   v)) : gG E m_L_recovered d Q 0 0 (rS v) 9 [] [] := by
  refine g_goto 15 dL_recovered_9 (by decide) ?_
  refine g_iconst dL_recovered_15 (0 : Int32) (by decide) ?_
  exact g_iret rfl dL_recovered_16 hQ
def f_L_recovered_7  (s0 : Int32) (s1 : Int32) (v : gV) : Int32 × gV := f_L_recovered_9   (vL v 570 s1.toNatClampNeg s0.toInt64)
def p_L_recovered_7  (s0 : Int32) (s1 : Int32) (v : gV) : Prop := (vp_in s1 1) ∧ (p_L_recovered_9    (vL v 570 s1.toNatClampNeg s0.toInt64))
set_option maxHeartbeats 4000000 in
set_option maxRecDepth 100000 in
theorem w_L_recovered_7 {E : gE} {d : Nat} {Q : gO → gS → Prop}   (hd : 9 ≤ d) (s0 : Int32) (s1 : Int32) (v : gV) (hp : p_L_recovered_7   s0 s1 v) (hQ : gqIV Q (f_L_recovered_7  s0 s1 v)) : gG E m_L_recovered d Q 0 0 (rS v) 7 [] [.int s0, .int s1, .ref (gX E + 570)] := by
  refine g_i2l dL_recovered_7 ?_
  obtain ⟨h4, hp⟩ := hp
  refine r_last (by decide : kd 570 = (3, 1)) (show 570 < 572 by decide) h4 dL_recovered_8 ?_
  exact w_L_recovered_9  hd     (vL v 570 s1.toNatClampNeg s0.toInt64) hp hQ
def f_L_recovered_13   (v : gV) : Int32 × gV := ((1 : Int32), v)
def p_L_recovered_13   (v : gV) : Prop := True
set_option maxHeartbeats 4000000 in
set_option maxRecDepth 100000 in
theorem w_L_recovered_13 {E : gE} {d : Nat} {Q : gO → gS → Prop}   (hd : 9 ≤ d)  (v : gV) (hp : p_L_recovered_13    v) (hQ : gqIV Q (f_L_recovered_13   v)) : gG E m_L_recovered d Q 0 0 (rS v) 13 [] [] := by
  refine g_iconst dL_recovered_13 (1 : Int32) (by decide) ?_
  exact g_iret rfl dL_recovered_14 hQ
def f_L_recovered_0  (x1 : Int32) (v : gV) : Int32 × gV := Sum.elim (fun (sr2 : Int32) => f_L_recovered_7  sr2 (0 : Int32) v) (fun (e : String) => if e = "java/util/NoSuchElementException" then (f_L_recovered_13   v) else ((0, v))) (f_X11_recovered x1 v)
def p_L_recovered_0  (x1 : Int32) (v : gV) : Prop := (p_X11_recovered x1 v) ∧ ((∀ (sr2 : Int32), (f_X11_recovered x1 v) = Sum.inl sr2 → (p_L_recovered_7   sr2 (0 : Int32) v)) ∧ (∀ (e : String), (f_X11_recovered x1 v) = Sum.inr e → (((e = "java/util/NoSuchElementException") → (p_L_recovered_13    v)) ∧ (¬ (e = "java/util/NoSuchElementException") → (False)))))
set_option maxHeartbeats 4000000 in
set_option maxRecDepth 100000 in
theorem w_L_recovered_0 {E : gE} {d : Nat} {Q : gO → gS → Prop}   (hd : 9 ≤ d) (x1 : Int32) (v : gV) (hp : p_L_recovered_0   x1 v) (hQ : gqIV Q (f_L_recovered_0  x1 v)) : gG E m_L_recovered d Q 1 6 (rS v) 0 [(0, .ref (gX E + 0)), (1, .int x1), (2, .ref (gX E + 570))] [] := by
  refine g_aload_n 2 dL_recovered_0 rfl ?_
  refine g_iconst dL_recovered_1 (0 : Int32) (by decide) ?_
  refine g_aload_n 0 dL_recovered_2 rfl ?_
  refine g_iload_n 1 dL_recovered_3 rfl ?_
  obtain ⟨h1, hp⟩ := hp
  refine g_callV (rest := [.int ((0 : Int32)), .ref (gX E + 570)]) s_L_101_X11 rfl (c_X11_recovered (E := E) (d := d - 1)   (by omega) x1 v h1) (by decide : kd 0 = (0, 8)) (show 0 < 572 by decide) rfl rfl (Nat.le_of_ble_eq_true rfl) (by omega) (by decide) (by decide) dL_recovered_4 (adTI (fun sr2 h3 => ?_)) (axTI (fun e h3 => ?_))
  · have hQ := ql (P := gqIV Q) h3 hQ
    have hp := hp.1 sr2 h3
    refine g_lv (lv' := []) [] rfl ?_
    exact w_L_recovered_7  hd    sr2 (0 : Int32) v hp hQ
  · have hQ := qe (P := gqIV Q) h3 hQ
    have hp := hp.2 e h3
    by_cases h5 : e = "java/util/NoSuchElementException"
    · subst h5
      have hQ := qp (P := gqIV Q) rfl hQ
      have hp := hp.1 rfl
      refine g_catch2 [] (0, 9, 12, 21) [] rfl (fun z hz => absurd hz List.not_mem_nil) (by decide) (by decide) w_860 w_880 (fun q => ?_)
      refine g_astore_n [(3, .ref q), (0, .ref (gX E + 0)), (1, .int x1), (2, .ref (gX E + 570))] dL_recovered_12 rfl (by decide) rfl ?_
      refine g_lv (lv' := []) [] rfl ?_
      exact w_L_recovered_13  hd     v hp hQ
    have hQ := qn (P := gqIV Q) h5 hQ
    have hp := hp.2 h5
    exact hp.elim
def f_L_recovered  (x1 : Int32) (v : gV) : Int32 × gV := f_L_recovered_0 x1 v
def p_L_recovered  (x1 : Int32) (v : gV) : Prop := p_L_recovered_0 x1 v
theorem c_L_recovered {E : gE} {d : Nat}   (hd : 9 ≤ d) (x1 : Int32) (v : gV) (hp : p_L_recovered x1 v) : CT E m_L_recovered d 1 6 [.ref (gX E + 0), .int x1, .ref (gX E + 570)] (rS v) (Cq (.inl (some (.int ((f_L_recovered x1 v).1)))) (f_L_recovered x1 v).2) := CT.ofH ok_L_recovered rfl (Nat.le_of_ble_eq_true rfl) (w_L_recovered_0  hd x1 v hp ⟨rfl, rfl⟩)
def f_L_startOf_9   (v : gV) : Int32 × gV := ((0 : Int32), v)
def p_L_startOf_9   (v : gV) : Prop := True
set_option maxHeartbeats 4000000 in
set_option maxRecDepth 100000 in
theorem w_L_startOf_9 {E : gE} {d : Nat} {Q : gO → gS → Prop}   (hd : 9 ≤ d)  (v : gV) (hp : p_L_startOf_9    v) (hQ : gqIV Q (f_L_startOf_9   v)) : gG E m_L_startOf d Q 0 0 (rS v) 9 [] [] := by
  refine g_goto 15 dL_startOf_9 (by decide) ?_
  refine g_iconst dL_startOf_15 (0 : Int32) (by decide) ?_
  exact g_iret rfl dL_startOf_16 hQ
def f_L_startOf_7  (s0 : Int32) (s1 : Int32) (v : gV) : Int32 × gV := f_L_startOf_9   (vL v 570 s1.toNatClampNeg s0.toInt64)
def p_L_startOf_7  (s0 : Int32) (s1 : Int32) (v : gV) : Prop := (vp_in s1 1) ∧ (p_L_startOf_9    (vL v 570 s1.toNatClampNeg s0.toInt64))
set_option maxHeartbeats 4000000 in
set_option maxRecDepth 100000 in
theorem w_L_startOf_7 {E : gE} {d : Nat} {Q : gO → gS → Prop}   (hd : 9 ≤ d) (s0 : Int32) (s1 : Int32) (v : gV) (hp : p_L_startOf_7   s0 s1 v) (hQ : gqIV Q (f_L_startOf_7  s0 s1 v)) : gG E m_L_startOf d Q 0 0 (rS v) 7 [] [.int s0, .int s1, .ref (gX E + 570)] := by
  refine g_i2l dL_startOf_7 ?_
  obtain ⟨h4, hp⟩ := hp
  refine r_last (by decide : kd 570 = (3, 1)) (show 570 < 572 by decide) h4 dL_startOf_8 ?_
  exact w_L_startOf_9  hd     (vL v 570 s1.toNatClampNeg s0.toInt64) hp hQ
def f_L_startOf_13   (v : gV) : Int32 × gV := ((1 : Int32), v)
def p_L_startOf_13   (v : gV) : Prop := True
set_option maxHeartbeats 4000000 in
set_option maxRecDepth 100000 in
theorem w_L_startOf_13 {E : gE} {d : Nat} {Q : gO → gS → Prop}   (hd : 9 ≤ d)  (v : gV) (hp : p_L_startOf_13    v) (hQ : gqIV Q (f_L_startOf_13   v)) : gG E m_L_startOf d Q 0 0 (rS v) 13 [] [] := by
  refine g_iconst dL_startOf_13 (1 : Int32) (by decide) ?_
  exact g_iret rfl dL_startOf_14 hQ
def f_L_startOf_0  (x1 : Int32) (v : gV) : Int32 × gV := Sum.elim (fun (sr2 : Int32) => f_L_startOf_7  sr2 (0 : Int32) v) (fun (e : String) => if e = "java/lang/IndexOutOfBoundsException" then (f_L_startOf_13   v) else ((0, v))) (f_X11_startOf x1 v)
def p_L_startOf_0  (x1 : Int32) (v : gV) : Prop := (p_X11_startOf x1 v) ∧ ((∀ (sr2 : Int32), (f_X11_startOf x1 v) = Sum.inl sr2 → (p_L_startOf_7   sr2 (0 : Int32) v)) ∧ (∀ (e : String), (f_X11_startOf x1 v) = Sum.inr e → (((e = "java/lang/IndexOutOfBoundsException") → (p_L_startOf_13    v)) ∧ (¬ (e = "java/lang/IndexOutOfBoundsException") → (False)))))
set_option maxHeartbeats 4000000 in
set_option maxRecDepth 100000 in
theorem w_L_startOf_0 {E : gE} {d : Nat} {Q : gO → gS → Prop}   (hd : 9 ≤ d) (x1 : Int32) (v : gV) (hp : p_L_startOf_0   x1 v) (hQ : gqIV Q (f_L_startOf_0  x1 v)) : gG E m_L_startOf d Q 1 6 (rS v) 0 [(0, .ref (gX E + 0)), (1, .int x1), (2, .ref (gX E + 570))] [] := by
  refine g_aload_n 2 dL_startOf_0 rfl ?_
  refine g_iconst dL_startOf_1 (0 : Int32) (by decide) ?_
  refine g_aload_n 0 dL_startOf_2 rfl ?_
  refine g_iload_n 1 dL_startOf_3 rfl ?_
  obtain ⟨h1, hp⟩ := hp
  refine g_callV (rest := [.int ((0 : Int32)), .ref (gX E + 570)]) s_L_104_X11 rfl (c_X11_startOf (E := E) (d := d - 1)   (by omega) x1 v h1) (by decide : kd 0 = (0, 8)) (show 0 < 572 by decide) rfl rfl (Nat.le_of_ble_eq_true rfl) (by omega) (by decide) (by decide) dL_startOf_4 (adTI (fun sr2 h3 => ?_)) (axTI (fun e h3 => ?_))
  · have hQ := ql (P := gqIV Q) h3 hQ
    have hp := hp.1 sr2 h3
    refine g_lv (lv' := []) [] rfl ?_
    exact w_L_startOf_7  hd    sr2 (0 : Int32) v hp hQ
  · have hQ := qe (P := gqIV Q) h3 hQ
    have hp := hp.2 e h3
    by_cases h5 : e = "java/lang/IndexOutOfBoundsException"
    · subst h5
      have hQ := qp (P := gqIV Q) rfl hQ
      have hp := hp.1 rfl
      refine g_catch2 [] (0, 9, 12, 30) [] rfl (fun z hz => absurd hz List.not_mem_nil) (by decide) (by decide) w_937 w_974 (fun q => ?_)
      refine g_astore_n [(3, .ref q), (0, .ref (gX E + 0)), (1, .int x1), (2, .ref (gX E + 570))] dL_startOf_12 rfl (by decide) rfl ?_
      refine g_lv (lv' := []) [] rfl ?_
      exact w_L_startOf_13  hd     v hp hQ
    have hQ := qn (P := gqIV Q) h5 hQ
    have hp := hp.2 h5
    exact hp.elim
def f_L_startOf  (x1 : Int32) (v : gV) : Int32 × gV := f_L_startOf_0 x1 v
def p_L_startOf  (x1 : Int32) (v : gV) : Prop := p_L_startOf_0 x1 v
theorem c_L_startOf {E : gE} {d : Nat}   (hd : 9 ≤ d) (x1 : Int32) (v : gV) (hp : p_L_startOf x1 v) : CT E m_L_startOf d 1 6 [.ref (gX E + 0), .int x1, .ref (gX E + 570)] (rS v) (Cq (.inl (some (.int ((f_L_startOf x1 v).1)))) (f_L_startOf x1 v).2) := CT.ofH ok_L_startOf rfl (Nat.le_of_ble_eq_true rfl) (w_L_startOf_0  hd x1 v hp ⟨rfl, rfl⟩)
def f_L_capacityOf_9   (v : gV) : Int32 × gV := ((0 : Int32), v)
def p_L_capacityOf_9   (v : gV) : Prop := True
set_option maxHeartbeats 4000000 in
set_option maxRecDepth 100000 in
theorem w_L_capacityOf_9 {E : gE} {d : Nat} {Q : gO → gS → Prop}   (hd : 9 ≤ d)  (v : gV) (hp : p_L_capacityOf_9    v) (hQ : gqIV Q (f_L_capacityOf_9   v)) : gG E m_L_capacityOf d Q 0 0 (rS v) 9 [] [] := by
  refine g_goto 15 dL_capacityOf_9 (by decide) ?_
  refine g_iconst dL_capacityOf_15 (0 : Int32) (by decide) ?_
  exact g_iret rfl dL_capacityOf_16 hQ
def f_L_capacityOf_7  (s0 : Int32) (s1 : Int32) (v : gV) : Int32 × gV := f_L_capacityOf_9   (vL v 570 s1.toNatClampNeg s0.toInt64)
def p_L_capacityOf_7  (s0 : Int32) (s1 : Int32) (v : gV) : Prop := (vp_in s1 1) ∧ (p_L_capacityOf_9    (vL v 570 s1.toNatClampNeg s0.toInt64))
set_option maxHeartbeats 4000000 in
set_option maxRecDepth 100000 in
theorem w_L_capacityOf_7 {E : gE} {d : Nat} {Q : gO → gS → Prop}   (hd : 9 ≤ d) (s0 : Int32) (s1 : Int32) (v : gV) (hp : p_L_capacityOf_7   s0 s1 v) (hQ : gqIV Q (f_L_capacityOf_7  s0 s1 v)) : gG E m_L_capacityOf d Q 0 0 (rS v) 7 [] [.int s0, .int s1, .ref (gX E + 570)] := by
  refine g_i2l dL_capacityOf_7 ?_
  obtain ⟨h4, hp⟩ := hp
  refine r_last (by decide : kd 570 = (3, 1)) (show 570 < 572 by decide) h4 dL_capacityOf_8 ?_
  exact w_L_capacityOf_9  hd     (vL v 570 s1.toNatClampNeg s0.toInt64) hp hQ
def f_L_capacityOf_13   (v : gV) : Int32 × gV := ((1 : Int32), v)
def p_L_capacityOf_13   (v : gV) : Prop := True
set_option maxHeartbeats 4000000 in
set_option maxRecDepth 100000 in
theorem w_L_capacityOf_13 {E : gE} {d : Nat} {Q : gO → gS → Prop}   (hd : 9 ≤ d)  (v : gV) (hp : p_L_capacityOf_13    v) (hQ : gqIV Q (f_L_capacityOf_13   v)) : gG E m_L_capacityOf d Q 0 0 (rS v) 13 [] [] := by
  refine g_iconst dL_capacityOf_13 (1 : Int32) (by decide) ?_
  exact g_iret rfl dL_capacityOf_14 hQ
def f_L_capacityOf_0  (x1 : Int32) (v : gV) : Int32 × gV := Sum.elim (fun (sr2 : Int32) => f_L_capacityOf_7  sr2 (0 : Int32) v) (fun (e : String) => if e = "java/lang/IndexOutOfBoundsException" then (f_L_capacityOf_13   v) else ((0, v))) (f_X11_capacityOf x1 v)
def p_L_capacityOf_0  (x1 : Int32) (v : gV) : Prop := (p_X11_capacityOf x1 v) ∧ ((∀ (sr2 : Int32), (f_X11_capacityOf x1 v) = Sum.inl sr2 → (p_L_capacityOf_7   sr2 (0 : Int32) v)) ∧ (∀ (e : String), (f_X11_capacityOf x1 v) = Sum.inr e → (((e = "java/lang/IndexOutOfBoundsException") → (p_L_capacityOf_13    v)) ∧ (¬ (e = "java/lang/IndexOutOfBoundsException") → (False)))))
set_option maxHeartbeats 4000000 in
set_option maxRecDepth 100000 in
theorem w_L_capacityOf_0 {E : gE} {d : Nat} {Q : gO → gS → Prop}   (hd : 9 ≤ d) (x1 : Int32) (v : gV) (hp : p_L_capacityOf_0   x1 v) (hQ : gqIV Q (f_L_capacityOf_0  x1 v)) : gG E m_L_capacityOf d Q 1 6 (rS v) 0 [(0, .ref (gX E + 0)), (1, .int x1), (2, .ref (gX E + 570))] [] := by
  refine g_aload_n 2 dL_capacityOf_0 rfl ?_
  refine g_iconst dL_capacityOf_1 (0 : Int32) (by decide) ?_
  refine g_aload_n 0 dL_capacityOf_2 rfl ?_
  refine g_iload_n 1 dL_capacityOf_3 rfl ?_
  obtain ⟨h1, hp⟩ := hp
  refine g_callV (rest := [.int ((0 : Int32)), .ref (gX E + 570)]) s_L_107_X11 rfl (c_X11_capacityOf (E := E) (d := d - 1)   (by omega) x1 v h1) (by decide : kd 0 = (0, 8)) (show 0 < 572 by decide) rfl rfl (Nat.le_of_ble_eq_true rfl) (by omega) (by decide) (by decide) dL_capacityOf_4 (adTI (fun sr2 h3 => ?_)) (axTI (fun e h3 => ?_))
  · have hQ := ql (P := gqIV Q) h3 hQ
    have hp := hp.1 sr2 h3
    refine g_lv (lv' := []) [] rfl ?_
    exact w_L_capacityOf_7  hd    sr2 (0 : Int32) v hp hQ
  · have hQ := qe (P := gqIV Q) h3 hQ
    have hp := hp.2 e h3
    by_cases h5 : e = "java/lang/IndexOutOfBoundsException"
    · subst h5
      have hQ := qp (P := gqIV Q) rfl hQ
      have hp := hp.1 rfl
      refine g_catch2 [] (0, 9, 12, 30) [] rfl (fun z hz => absurd hz List.not_mem_nil) (by decide) (by decide) w_937 w_974 (fun q => ?_)
      refine g_astore_n [(3, .ref q), (0, .ref (gX E + 0)), (1, .int x1), (2, .ref (gX E + 570))] dL_capacityOf_12 rfl (by decide) rfl ?_
      refine g_lv (lv' := []) [] rfl ?_
      exact w_L_capacityOf_13  hd     v hp hQ
    have hQ := qn (P := gqIV Q) h5 hQ
    have hp := hp.2 h5
    exact hp.elim
def f_L_capacityOf  (x1 : Int32) (v : gV) : Int32 × gV := f_L_capacityOf_0 x1 v
def p_L_capacityOf  (x1 : Int32) (v : gV) : Prop := p_L_capacityOf_0 x1 v
theorem c_L_capacityOf {E : gE} {d : Nat}   (hd : 9 ≤ d) (x1 : Int32) (v : gV) (hp : p_L_capacityOf x1 v) : CT E m_L_capacityOf d 1 6 [.ref (gX E + 0), .int x1, .ref (gX E + 570)] (rS v) (Cq (.inl (some (.int ((f_L_capacityOf x1 v).1)))) (f_L_capacityOf x1 v).2) := CT.ofH ok_L_capacityOf rfl (Nat.le_of_ble_eq_true rfl) (w_L_capacityOf_0  hd x1 v hp ⟨rfl, rfl⟩)
def f_L_borne_9   (v : gV) : Int32 × gV := ((0 : Int32), v)
def p_L_borne_9   (v : gV) : Prop := True
set_option maxHeartbeats 4000000 in
set_option maxRecDepth 100000 in
theorem w_L_borne_9 {E : gE} {d : Nat} {Q : gO → gS → Prop}   (hd : 9 ≤ d)  (v : gV) (hp : p_L_borne_9    v) (hQ : gqIV Q (f_L_borne_9   v)) : gG E m_L_borne d Q 0 0 (rS v) 9 [] [] := by
  refine g_goto 15 dL_borne_9 (by decide) ?_
  refine g_iconst dL_borne_15 (0 : Int32) (by decide) ?_
  exact g_iret rfl dL_borne_16 hQ
def f_L_borne_7  (s0 : Int32) (s1 : Int32) (v : gV) : Int32 × gV := f_L_borne_9   (vL v 570 s1.toNatClampNeg s0.toInt64)
def p_L_borne_7  (s0 : Int32) (s1 : Int32) (v : gV) : Prop := (vp_in s1 1) ∧ (p_L_borne_9    (vL v 570 s1.toNatClampNeg s0.toInt64))
set_option maxHeartbeats 4000000 in
set_option maxRecDepth 100000 in
theorem w_L_borne_7 {E : gE} {d : Nat} {Q : gO → gS → Prop}   (hd : 9 ≤ d) (s0 : Int32) (s1 : Int32) (v : gV) (hp : p_L_borne_7   s0 s1 v) (hQ : gqIV Q (f_L_borne_7  s0 s1 v)) : gG E m_L_borne d Q 0 0 (rS v) 7 [] [.int s0, .int s1, .ref (gX E + 570)] := by
  refine g_i2l dL_borne_7 ?_
  obtain ⟨h4, hp⟩ := hp
  refine r_last (by decide : kd 570 = (3, 1)) (show 570 < 572 by decide) h4 dL_borne_8 ?_
  exact w_L_borne_9  hd     (vL v 570 s1.toNatClampNeg s0.toInt64) hp hQ
def f_L_borne_13   (v : gV) : Int32 × gV := ((1 : Int32), v)
def p_L_borne_13   (v : gV) : Prop := True
set_option maxHeartbeats 4000000 in
set_option maxRecDepth 100000 in
theorem w_L_borne_13 {E : gE} {d : Nat} {Q : gO → gS → Prop}   (hd : 9 ≤ d)  (v : gV) (hp : p_L_borne_13    v) (hQ : gqIV Q (f_L_borne_13   v)) : gG E m_L_borne d Q 0 0 (rS v) 13 [] [] := by
  refine g_iconst dL_borne_13 (1 : Int32) (by decide) ?_
  exact g_iret rfl dL_borne_14 hQ
def f_L_borne_0  (x1 : Int32) (v : gV) : Int32 × gV := Sum.elim (fun (sr2 : Int32) => f_L_borne_7  sr2 (0 : Int32) (f_X11_borne x1 v).2) (fun (e : String) => if e = "java/lang/IllegalArgumentException" then (f_L_borne_13   (f_X11_borne x1 v).2) else ((0, v))) (f_X11_borne x1 v).1
def p_L_borne_0  (x1 : Int32) (v : gV) : Prop := (p_X11_borne x1 v) ∧ ((∀ (sr2 : Int32), (f_X11_borne x1 v).1 = Sum.inl sr2 → (p_L_borne_7   sr2 (0 : Int32) (f_X11_borne x1 v).2)) ∧ (∀ (e : String), (f_X11_borne x1 v).1 = Sum.inr e → (((e = "java/lang/IllegalArgumentException") → (p_L_borne_13    (f_X11_borne x1 v).2)) ∧ (¬ (e = "java/lang/IllegalArgumentException") → (False)))))
set_option maxHeartbeats 4000000 in
set_option maxRecDepth 100000 in
theorem w_L_borne_0 {E : gE} {d : Nat} {Q : gO → gS → Prop}   (hd : 9 ≤ d) (x1 : Int32) (v : gV) (hp : p_L_borne_0   x1 v) (hQ : gqIV Q (f_L_borne_0  x1 v)) : gG E m_L_borne d Q 1 6 (rS v) 0 [(0, .ref (gX E + 0)), (1, .int x1), (2, .ref (gX E + 570))] [] := by
  refine g_aload_n 2 dL_borne_0 rfl ?_
  refine g_iconst dL_borne_1 (0 : Int32) (by decide) ?_
  refine g_aload_n 0 dL_borne_2 rfl ?_
  refine g_iload_n 1 dL_borne_3 rfl ?_
  obtain ⟨h1, hp⟩ := hp
  refine g_callV (rest := [.int ((0 : Int32)), .ref (gX E + 570)]) s_L_110_X11 rfl (c_X11_borne (E := E) (d := d - 1)   (by omega) x1 v h1) (by decide : kd 0 = (0, 8)) (show 0 < 572 by decide) rfl rfl (Nat.le_of_ble_eq_true rfl) (by omega) (by decide) (by decide) dL_borne_4 (adTI (fun sr2 h3 => ?_)) (axTI (fun e h3 => ?_))
  · have hQ := ql (P := gqIV Q) h3 hQ
    have hp := hp.1 sr2 h3
    refine g_lv (lv' := []) [] rfl ?_
    exact w_L_borne_7  hd    sr2 (0 : Int32) (f_X11_borne x1 v).2 hp hQ
  · have hQ := qe (P := gqIV Q) h3 hQ
    have hp := hp.2 e h3
    by_cases h5 : e = "java/lang/IllegalArgumentException"
    · subst h5
      have hQ := qp (P := gqIV Q) rfl hQ
      have hp := hp.1 rfl
      refine g_catch2 [] (0, 9, 12, 13) [] rfl (fun z hz => absurd hz List.not_mem_nil) (by decide) (by decide) w_722 w_753 (fun q => ?_)
      refine g_astore_n [(3, .ref q), (0, .ref (gX E + 0)), (1, .int x1), (2, .ref (gX E + 570))] dL_borne_12 rfl (by decide) rfl ?_
      refine g_lv (lv' := []) [] rfl ?_
      exact w_L_borne_13  hd     (f_X11_borne x1 v).2 hp hQ
    have hQ := qn (P := gqIV Q) h5 hQ
    have hp := hp.2 h5
    exact hp.elim
def f_L_borne  (x1 : Int32) (v : gV) : Int32 × gV := f_L_borne_0 x1 v
def p_L_borne  (x1 : Int32) (v : gV) : Prop := p_L_borne_0 x1 v
theorem c_L_borne {E : gE} {d : Nat}   (hd : 9 ≤ d) (x1 : Int32) (v : gV) (hp : p_L_borne x1 v) : CT E m_L_borne d 1 6 [.ref (gX E + 0), .int x1, .ref (gX E + 570)] (rS v) (Cq (.inl (some (.int ((f_L_borne x1 v).1)))) (f_L_borne x1 v).2) := CT.ofH ok_L_borne rfl (Nat.le_of_ble_eq_true rfl) (w_L_borne_0  hd x1 v hp ⟨rfl, rfl⟩)
def f_L_outcomesWithin_8   (v : gV) : Int32 × gV := ((0 : Int32), v)
def p_L_outcomesWithin_8   (v : gV) : Prop := True
set_option maxHeartbeats 4000000 in
set_option maxRecDepth 100000 in
theorem w_L_outcomesWithin_8 {E : gE} {d : Nat} {Q : gO → gS → Prop}   (hd : 9 ≤ d)  (v : gV) (hp : p_L_outcomesWithin_8    v) (hQ : gqIV Q (f_L_outcomesWithin_8   v)) : gG E m_L_outcomesWithin d Q 0 0 (rS v) 8 [] [] := by
  refine g_goto 14 dL_outcomesWithin_8 (by decide) ?_
  refine g_iconst dL_outcomesWithin_14 (0 : Int32) (by decide) ?_
  exact g_iret rfl dL_outcomesWithin_15 hQ
def f_L_outcomesWithin_7  (s0 : Int64) (s1 : Int32) (v : gV) : Int32 × gV := f_L_outcomesWithin_8   (vL v 570 s1.toNatClampNeg s0)
def p_L_outcomesWithin_7  (s0 : Int64) (s1 : Int32) (v : gV) : Prop := (vp_in s1 1) ∧ (p_L_outcomesWithin_8    (vL v 570 s1.toNatClampNeg s0))
set_option maxHeartbeats 4000000 in
set_option maxRecDepth 100000 in
theorem w_L_outcomesWithin_7 {E : gE} {d : Nat} {Q : gO → gS → Prop}   (hd : 9 ≤ d) (s0 : Int64) (s1 : Int32) (v : gV) (hp : p_L_outcomesWithin_7   s0 s1 v) (hQ : gqIV Q (f_L_outcomesWithin_7  s0 s1 v)) : gG E m_L_outcomesWithin d Q 0 0 (rS v) 7 [] [.long s0, .int s1, .ref (gX E + 570)] := by
  obtain ⟨h4, hp⟩ := hp
  refine r_last (by decide : kd 570 = (3, 1)) (show 570 < 572 by decide) h4 dL_outcomesWithin_7 ?_
  exact w_L_outcomesWithin_8  hd     (vL v 570 s1.toNatClampNeg s0) hp hQ
def f_L_outcomesWithin_12   (v : gV) : Int32 × gV := ((1 : Int32), v)
def p_L_outcomesWithin_12   (v : gV) : Prop := True
set_option maxHeartbeats 4000000 in
set_option maxRecDepth 100000 in
theorem w_L_outcomesWithin_12 {E : gE} {d : Nat} {Q : gO → gS → Prop}   (hd : 9 ≤ d)  (v : gV) (hp : p_L_outcomesWithin_12    v) (hQ : gqIV Q (f_L_outcomesWithin_12   v)) : gG E m_L_outcomesWithin d Q 0 0 (rS v) 12 [] [] := by
  refine g_iconst dL_outcomesWithin_12 (1 : Int32) (by decide) ?_
  exact g_iret rfl dL_outcomesWithin_13 hQ
def f_L_outcomesWithin_0  (x1 : Int32) (v : gV) : Int32 × gV := Sum.elim (fun (sr2 : Int64) => f_L_outcomesWithin_7  sr2 (0 : Int32) (f_X11_outcomesWithin x1 v).2) (fun (e : String) => if e = "java/lang/IllegalArgumentException" then (f_L_outcomesWithin_12   (f_X11_outcomesWithin x1 v).2) else ((0, v))) (f_X11_outcomesWithin x1 v).1
def p_L_outcomesWithin_0  (x1 : Int32) (v : gV) : Prop := (p_X11_outcomesWithin x1 v) ∧ ((∀ (sr2 : Int64), (f_X11_outcomesWithin x1 v).1 = Sum.inl sr2 → (p_L_outcomesWithin_7   sr2 (0 : Int32) (f_X11_outcomesWithin x1 v).2)) ∧ (∀ (e : String), (f_X11_outcomesWithin x1 v).1 = Sum.inr e → (((e = "java/lang/IllegalArgumentException") → (p_L_outcomesWithin_12    (f_X11_outcomesWithin x1 v).2)) ∧ (¬ (e = "java/lang/IllegalArgumentException") → (False)))))
set_option maxHeartbeats 4000000 in
set_option maxRecDepth 100000 in
theorem w_L_outcomesWithin_0 {E : gE} {d : Nat} {Q : gO → gS → Prop}   (hd : 9 ≤ d) (x1 : Int32) (v : gV) (hp : p_L_outcomesWithin_0   x1 v) (hQ : gqIV Q (f_L_outcomesWithin_0  x1 v)) : gG E m_L_outcomesWithin d Q 1 6 (rS v) 0 [(0, .ref (gX E + 0)), (1, .int x1), (2, .ref (gX E + 570))] [] := by
  refine g_aload_n 2 dL_outcomesWithin_0 rfl ?_
  refine g_iconst dL_outcomesWithin_1 (0 : Int32) (by decide) ?_
  refine g_aload_n 0 dL_outcomesWithin_2 rfl ?_
  refine g_iload_n 1 dL_outcomesWithin_3 rfl ?_
  obtain ⟨h1, hp⟩ := hp
  refine g_callV (rest := [.int ((0 : Int32)), .ref (gX E + 570)]) s_L_116_X11 rfl (c_X11_outcomesWithin (E := E) (d := d - 1)   (by omega) x1 v h1) (by decide : kd 0 = (0, 8)) (show 0 < 572 by decide) rfl rfl (Nat.le_of_ble_eq_true rfl) (by omega) (by decide) (by decide) dL_outcomesWithin_4 (adTJ (fun sr2 h3 => ?_)) (axTJ (fun e h3 => ?_))
  · have hQ := ql (P := gqIV Q) h3 hQ
    have hp := hp.1 sr2 h3
    refine g_lv (lv' := []) [] rfl ?_
    exact w_L_outcomesWithin_7  hd    sr2 (0 : Int32) (f_X11_outcomesWithin x1 v).2 hp hQ
  · have hQ := qe (P := gqIV Q) h3 hQ
    have hp := hp.2 e h3
    by_cases h5 : e = "java/lang/IllegalArgumentException"
    · subst h5
      have hQ := qp (P := gqIV Q) rfl hQ
      have hp := hp.1 rfl
      refine g_catch2 [] (0, 8, 11, 13) [] rfl (fun z hz => absurd hz List.not_mem_nil) (by decide) (by decide) w_722 w_753 (fun q => ?_)
      refine g_astore_n [(3, .ref q), (0, .ref (gX E + 0)), (1, .int x1), (2, .ref (gX E + 570))] dL_outcomesWithin_11 rfl (by decide) rfl ?_
      refine g_lv (lv' := []) [] rfl ?_
      exact w_L_outcomesWithin_12  hd     (f_X11_outcomesWithin x1 v).2 hp hQ
    have hQ := qn (P := gqIV Q) h5 hQ
    have hp := hp.2 h5
    exact hp.elim
def f_L_outcomesWithin  (x1 : Int32) (v : gV) : Int32 × gV := f_L_outcomesWithin_0 x1 v
def p_L_outcomesWithin  (x1 : Int32) (v : gV) : Prop := p_L_outcomesWithin_0 x1 v
theorem c_L_outcomesWithin {E : gE} {d : Nat}   (hd : 9 ≤ d) (x1 : Int32) (v : gV) (hp : p_L_outcomesWithin x1 v) : CT E m_L_outcomesWithin d 1 6 [.ref (gX E + 0), .int x1, .ref (gX E + 570)] (rS v) (Cq (.inl (some (.int ((f_L_outcomesWithin x1 v).1)))) (f_L_outcomesWithin x1 v).2) := CT.ofH ok_L_outcomesWithin rfl (Nat.le_of_ble_eq_true rfl) (w_L_outcomesWithin_0  hd x1 v hp ⟨rfl, rfl⟩)
def f_L_outcomesWithinBySets_8   (v : gV) : Int32 × gV := ((0 : Int32), v)
def p_L_outcomesWithinBySets_8   (v : gV) : Prop := True
set_option maxHeartbeats 4000000 in
set_option maxRecDepth 100000 in
theorem w_L_outcomesWithinBySets_8 {E : gE} {d : Nat} {Q : gO → gS → Prop}   (hd : 9 ≤ d)  (v : gV) (hp : p_L_outcomesWithinBySets_8    v) (hQ : gqIV Q (f_L_outcomesWithinBySets_8   v)) : gG E m_L_outcomesWithinBySets d Q 0 0 (rS v) 8 [] [] := by
  refine g_goto 14 dL_outcomesWithinBySets_8 (by decide) ?_
  refine g_iconst dL_outcomesWithinBySets_14 (0 : Int32) (by decide) ?_
  exact g_iret rfl dL_outcomesWithinBySets_15 hQ
def f_L_outcomesWithinBySets_7  (s0 : Int64) (s1 : Int32) (v : gV) : Int32 × gV := f_L_outcomesWithinBySets_8   (vL v 570 s1.toNatClampNeg s0)
def p_L_outcomesWithinBySets_7  (s0 : Int64) (s1 : Int32) (v : gV) : Prop := (vp_in s1 1) ∧ (p_L_outcomesWithinBySets_8    (vL v 570 s1.toNatClampNeg s0))
set_option maxHeartbeats 4000000 in
set_option maxRecDepth 100000 in
theorem w_L_outcomesWithinBySets_7 {E : gE} {d : Nat} {Q : gO → gS → Prop}   (hd : 9 ≤ d) (s0 : Int64) (s1 : Int32) (v : gV) (hp : p_L_outcomesWithinBySets_7   s0 s1 v) (hQ : gqIV Q (f_L_outcomesWithinBySets_7  s0 s1 v)) : gG E m_L_outcomesWithinBySets d Q 0 0 (rS v) 7 [] [.long s0, .int s1, .ref (gX E + 570)] := by
  obtain ⟨h4, hp⟩ := hp
  refine r_last (by decide : kd 570 = (3, 1)) (show 570 < 572 by decide) h4 dL_outcomesWithinBySets_7 ?_
  exact w_L_outcomesWithinBySets_8  hd     (vL v 570 s1.toNatClampNeg s0) hp hQ
def f_L_outcomesWithinBySets_12   (v : gV) : Int32 × gV := ((1 : Int32), v)
def p_L_outcomesWithinBySets_12   (v : gV) : Prop := True
set_option maxHeartbeats 4000000 in
set_option maxRecDepth 100000 in
theorem w_L_outcomesWithinBySets_12 {E : gE} {d : Nat} {Q : gO → gS → Prop}   (hd : 9 ≤ d)  (v : gV) (hp : p_L_outcomesWithinBySets_12    v) (hQ : gqIV Q (f_L_outcomesWithinBySets_12   v)) : gG E m_L_outcomesWithinBySets d Q 0 0 (rS v) 12 [] [] := by
  refine g_iconst dL_outcomesWithinBySets_12 (1 : Int32) (by decide) ?_
  exact g_iret rfl dL_outcomesWithinBySets_13 hQ
def f_L_outcomesWithinBySets_0  (x1 : Int32) (v : gV) : Int32 × gV := Sum.elim (fun (sr2 : Int64) => f_L_outcomesWithinBySets_7  sr2 (0 : Int32) v) (fun (e : String) => if e = "java/lang/IllegalArgumentException" then (f_L_outcomesWithinBySets_12   v) else ((0, v))) (f_X11_outcomesWithinBySets x1 v)
def p_L_outcomesWithinBySets_0  (x1 : Int32) (v : gV) : Prop := (p_X11_outcomesWithinBySets x1 v) ∧ ((∀ (sr2 : Int64), (f_X11_outcomesWithinBySets x1 v) = Sum.inl sr2 → (p_L_outcomesWithinBySets_7   sr2 (0 : Int32) v)) ∧ (∀ (e : String), (f_X11_outcomesWithinBySets x1 v) = Sum.inr e → (((e = "java/lang/IllegalArgumentException") → (p_L_outcomesWithinBySets_12    v)) ∧ (¬ (e = "java/lang/IllegalArgumentException") → (False)))))
set_option maxHeartbeats 4000000 in
set_option maxRecDepth 100000 in
theorem w_L_outcomesWithinBySets_0 {E : gE} {d : Nat} {Q : gO → gS → Prop}   (hd : 9 ≤ d) (x1 : Int32) (v : gV) (hp : p_L_outcomesWithinBySets_0   x1 v) (hQ : gqIV Q (f_L_outcomesWithinBySets_0  x1 v)) : gG E m_L_outcomesWithinBySets d Q 1 6 (rS v) 0 [(0, .ref (gX E + 0)), (1, .int x1), (2, .ref (gX E + 570))] [] := by
  refine g_aload_n 2 dL_outcomesWithinBySets_0 rfl ?_
  refine g_iconst dL_outcomesWithinBySets_1 (0 : Int32) (by decide) ?_
  refine g_aload_n 0 dL_outcomesWithinBySets_2 rfl ?_
  refine g_iload_n 1 dL_outcomesWithinBySets_3 rfl ?_
  obtain ⟨h1, hp⟩ := hp
  refine g_callV (rest := [.int ((0 : Int32)), .ref (gX E + 570)]) s_L_120_X11 rfl (c_X11_outcomesWithinBySets (E := E) (d := d - 1)   (by omega) x1 v h1) (by decide : kd 0 = (0, 8)) (show 0 < 572 by decide) rfl rfl (Nat.le_of_ble_eq_true rfl) (by omega) (by decide) (by decide) dL_outcomesWithinBySets_4 (adTJ (fun sr2 h3 => ?_)) (axTJ (fun e h3 => ?_))
  · have hQ := ql (P := gqIV Q) h3 hQ
    have hp := hp.1 sr2 h3
    refine g_lv (lv' := []) [] rfl ?_
    exact w_L_outcomesWithinBySets_7  hd    sr2 (0 : Int32) v hp hQ
  · have hQ := qe (P := gqIV Q) h3 hQ
    have hp := hp.2 e h3
    by_cases h5 : e = "java/lang/IllegalArgumentException"
    · subst h5
      have hQ := qp (P := gqIV Q) rfl hQ
      have hp := hp.1 rfl
      refine g_catch2 [] (0, 8, 11, 13) [] rfl (fun z hz => absurd hz List.not_mem_nil) (by decide) (by decide) w_722 w_753 (fun q => ?_)
      refine g_astore_n [(3, .ref q), (0, .ref (gX E + 0)), (1, .int x1), (2, .ref (gX E + 570))] dL_outcomesWithinBySets_11 rfl (by decide) rfl ?_
      refine g_lv (lv' := []) [] rfl ?_
      exact w_L_outcomesWithinBySets_12  hd     v hp hQ
    have hQ := qn (P := gqIV Q) h5 hQ
    have hp := hp.2 h5
    exact hp.elim
def f_L_outcomesWithinBySets  (x1 : Int32) (v : gV) : Int32 × gV := f_L_outcomesWithinBySets_0 x1 v
def p_L_outcomesWithinBySets  (x1 : Int32) (v : gV) : Prop := p_L_outcomesWithinBySets_0 x1 v
theorem c_L_outcomesWithinBySets {E : gE} {d : Nat}   (hd : 9 ≤ d) (x1 : Int32) (v : gV) (hp : p_L_outcomesWithinBySets x1 v) : CT E m_L_outcomesWithinBySets d 1 6 [.ref (gX E + 0), .int x1, .ref (gX E + 570)] (rS v) (Cq (.inl (some (.int ((f_L_outcomesWithinBySets x1 v).1)))) (f_L_outcomesWithinBySets x1 v).2) := CT.ofH ok_L_outcomesWithinBySets rfl (Nat.le_of_ble_eq_true rfl) (w_L_outcomesWithinBySets_0  hd x1 v hp ⟨rfl, rfl⟩)
def f_L_paidIn_10   (v : gV) : Int32 × gV := ((0 : Int32), v)
def p_L_paidIn_10   (v : gV) : Prop := True
set_option maxHeartbeats 4000000 in
set_option maxRecDepth 100000 in
theorem w_L_paidIn_10 {E : gE} {d : Nat} {Q : gO → gS → Prop}   (hd : 9 ≤ d)  (v : gV) (hp : p_L_paidIn_10    v) (hQ : gqIV Q (f_L_paidIn_10   v)) : gG E m_L_paidIn d Q 0 0 (rS v) 10 [] [] := by
  refine g_goto 17 dL_paidIn_10 (by decide) ?_
  refine g_iconst dL_paidIn_17 (0 : Int32) (by decide) ?_
  exact g_iret rfl dL_paidIn_18 hQ
def f_L_paidIn_8  (s0 : Int32) (s1 : Int32) (v : gV) : Int32 × gV := f_L_paidIn_10   (vL v 570 s1.toNatClampNeg s0.toInt64)
def p_L_paidIn_8  (s0 : Int32) (s1 : Int32) (v : gV) : Prop := (vp_in s1 1) ∧ (p_L_paidIn_10    (vL v 570 s1.toNatClampNeg s0.toInt64))
set_option maxHeartbeats 4000000 in
set_option maxRecDepth 100000 in
theorem w_L_paidIn_8 {E : gE} {d : Nat} {Q : gO → gS → Prop}   (hd : 9 ≤ d) (s0 : Int32) (s1 : Int32) (v : gV) (hp : p_L_paidIn_8   s0 s1 v) (hQ : gqIV Q (f_L_paidIn_8  s0 s1 v)) : gG E m_L_paidIn d Q 0 0 (rS v) 8 [] [.int s0, .int s1, .ref (gX E + 570)] := by
  refine g_i2l dL_paidIn_8 ?_
  obtain ⟨h4, hp⟩ := hp
  refine r_last (by decide : kd 570 = (3, 1)) (show 570 < 572 by decide) h4 dL_paidIn_9 ?_
  exact w_L_paidIn_10  hd     (vL v 570 s1.toNatClampNeg s0.toInt64) hp hQ
def f_L_paidIn_15   (v : gV) : Int32 × gV := ((1 : Int32), v)
def p_L_paidIn_15   (v : gV) : Prop := True
set_option maxHeartbeats 4000000 in
set_option maxRecDepth 100000 in
theorem w_L_paidIn_15 {E : gE} {d : Nat} {Q : gO → gS → Prop}   (hd : 9 ≤ d)  (v : gV) (hp : p_L_paidIn_15    v) (hQ : gqIV Q (f_L_paidIn_15   v)) : gG E m_L_paidIn d Q 0 0 (rS v) 15 [] [] := by
  refine g_iconst dL_paidIn_15 (1 : Int32) (by decide) ?_
  exact g_iret rfl dL_paidIn_16 hQ
def f_L_paidIn_0  (x1 : Int32) (x2 : Int32) (v : gV) : Int32 × gV := Sum.elim (fun (sr2 : Int32) => f_L_paidIn_8  sr2 (0 : Int32) v) (fun (e : String) => if e = "java/lang/IllegalArgumentException" then (f_L_paidIn_15   v) else ((0, v))) (f_X11_paidIn x1 x2 v)
def p_L_paidIn_0  (x1 : Int32) (x2 : Int32) (v : gV) : Prop := (p_X11_paidIn x1 x2 v) ∧ ((∀ (sr2 : Int32), (f_X11_paidIn x1 x2 v) = Sum.inl sr2 → (p_L_paidIn_8   sr2 (0 : Int32) v)) ∧ (∀ (e : String), (f_X11_paidIn x1 x2 v) = Sum.inr e → (((e = "java/lang/IllegalArgumentException") → (p_L_paidIn_15    v)) ∧ (¬ (e = "java/lang/IllegalArgumentException") → (False)))))
set_option maxHeartbeats 4000000 in
set_option maxRecDepth 100000 in
theorem w_L_paidIn_0 {E : gE} {d : Nat} {Q : gO → gS → Prop}   (hd : 9 ≤ d) (x1 : Int32) (x2 : Int32) (v : gV) (hp : p_L_paidIn_0   x1 x2 v) (hQ : gqIV Q (f_L_paidIn_0  x1 x2 v)) : gG E m_L_paidIn d Q 2 12 (rS v) 0 [(0, .ref (gX E + 0)), (1, .int x1), (2, .int x2), (3, .ref (gX E + 570))] [] := by
  refine g_aload_n 3 dL_paidIn_0 rfl ?_
  refine g_iconst dL_paidIn_1 (0 : Int32) (by decide) ?_
  refine g_aload_n 0 dL_paidIn_2 rfl ?_
  refine g_iload_n 1 dL_paidIn_3 rfl ?_
  refine g_iload_n 2 dL_paidIn_4 rfl ?_
  obtain ⟨h1, hp⟩ := hp
  refine g_callV (rest := [.int ((0 : Int32)), .ref (gX E + 570)]) s_L_123_X11 rfl (c_X11_paidIn (E := E) (d := d - 1)   (by omega) x1 x2 v h1) (by decide : kd 0 = (0, 8)) (show 0 < 572 by decide) rfl rfl (Nat.le_of_ble_eq_true rfl) (by omega) (by decide) (by decide) dL_paidIn_5 (adTI (fun sr2 h3 => ?_)) (axTI (fun e h3 => ?_))
  · have hQ := ql (P := gqIV Q) h3 hQ
    have hp := hp.1 sr2 h3
    refine g_lv (lv' := []) [] rfl ?_
    exact w_L_paidIn_8  hd    sr2 (0 : Int32) v hp hQ
  · have hQ := qe (P := gqIV Q) h3 hQ
    have hp := hp.2 e h3
    by_cases h5 : e = "java/lang/IllegalArgumentException"
    · subst h5
      have hQ := qp (P := gqIV Q) rfl hQ
      have hp := hp.1 rfl
      refine g_catch2 [] (0, 10, 13, 13) [] rfl (fun z hz => absurd hz List.not_mem_nil) (by decide) (by decide) w_722 w_753 (fun q => ?_)
      refine g_astore [(4, .ref q), (0, .ref (gX E + 0)), (1, .int x1), (2, .int x2), (3, .ref (gX E + 570))] dL_paidIn_13 (by decide) rfl ?_
      refine g_lv (lv' := []) [] rfl ?_
      exact w_L_paidIn_15  hd     v hp hQ
    have hQ := qn (P := gqIV Q) h5 hQ
    have hp := hp.2 h5
    exact hp.elim
def f_L_paidIn  (x1 : Int32) (x2 : Int32) (v : gV) : Int32 × gV := f_L_paidIn_0 x1 x2 v
def p_L_paidIn  (x1 : Int32) (x2 : Int32) (v : gV) : Prop := p_L_paidIn_0 x1 x2 v
theorem c_L_paidIn {E : gE} {d : Nat}   (hd : 9 ≤ d) (x1 : Int32) (x2 : Int32) (v : gV) (hp : p_L_paidIn x1 x2 v) : CT E m_L_paidIn d 2 12 [.ref (gX E + 0), .int x1, .int x2, .ref (gX E + 570)] (rS v) (Cq (.inl (some (.int ((f_L_paidIn x1 x2 v).1)))) (f_L_paidIn x1 x2 v).2) := CT.ofH ok_L_paidIn rfl (Nat.le_of_ble_eq_true rfl) (w_L_paidIn_0  hd x1 x2 v hp ⟨rfl, rfl⟩)
def f_L_cheapestCover_10   (v : gV) : Int32 × gV := ((0 : Int32), v)
def p_L_cheapestCover_10   (v : gV) : Prop := True
set_option maxHeartbeats 4000000 in
set_option maxRecDepth 100000 in
theorem w_L_cheapestCover_10 {E : gE} {d : Nat} {Q : gO → gS → Prop}   (hd : 9 ≤ d)  (v : gV) (hp : p_L_cheapestCover_10    v) (hQ : gqIV Q (f_L_cheapestCover_10   v)) : gG E m_L_cheapestCover d Q 0 0 (rS v) 10 [] [] := by
  refine g_goto 21 dL_cheapestCover_10 (by decide) ?_
  refine g_iconst dL_cheapestCover_21 (0 : Int32) (by decide) ?_
  exact g_iret rfl dL_cheapestCover_22 hQ
def f_L_cheapestCover_8  (s0 : Int32) (s1 : Int32) (v : gV) : Int32 × gV := f_L_cheapestCover_10   (vL v 570 s1.toNatClampNeg s0.toInt64)
def p_L_cheapestCover_8  (s0 : Int32) (s1 : Int32) (v : gV) : Prop := (vp_in s1 1) ∧ (p_L_cheapestCover_10    (vL v 570 s1.toNatClampNeg s0.toInt64))
set_option maxHeartbeats 4000000 in
set_option maxRecDepth 100000 in
theorem w_L_cheapestCover_8 {E : gE} {d : Nat} {Q : gO → gS → Prop}   (hd : 9 ≤ d) (s0 : Int32) (s1 : Int32) (v : gV) (hp : p_L_cheapestCover_8   s0 s1 v) (hQ : gqIV Q (f_L_cheapestCover_8  s0 s1 v)) : gG E m_L_cheapestCover d Q 0 0 (rS v) 8 [] [.int s0, .int s1, .ref (gX E + 570)] := by
  refine g_i2l dL_cheapestCover_8 ?_
  obtain ⟨h4, hp⟩ := hp
  refine r_last (by decide : kd 570 = (3, 1)) (show 570 < 572 by decide) h4 dL_cheapestCover_9 ?_
  exact w_L_cheapestCover_10  hd     (vL v 570 s1.toNatClampNeg s0.toInt64) hp hQ
def f_L_cheapestCover_15   (v : gV) : Int32 × gV := ((1 : Int32), v)
def p_L_cheapestCover_15   (v : gV) : Prop := True
set_option maxHeartbeats 4000000 in
set_option maxRecDepth 100000 in
theorem w_L_cheapestCover_15 {E : gE} {d : Nat} {Q : gO → gS → Prop}   (hd : 9 ≤ d)  (v : gV) (hp : p_L_cheapestCover_15    v) (hQ : gqIV Q (f_L_cheapestCover_15   v)) : gG E m_L_cheapestCover d Q 0 0 (rS v) 15 [] [] := by
  refine g_iconst dL_cheapestCover_15 (1 : Int32) (by decide) ?_
  exact g_iret rfl dL_cheapestCover_16 hQ
def f_L_cheapestCover_19   (v : gV) : Int32 × gV := ((2 : Int32), v)
def p_L_cheapestCover_19   (v : gV) : Prop := True
set_option maxHeartbeats 4000000 in
set_option maxRecDepth 100000 in
theorem w_L_cheapestCover_19 {E : gE} {d : Nat} {Q : gO → gS → Prop}   (hd : 9 ≤ d)  (v : gV) (hp : p_L_cheapestCover_19    v) (hQ : gqIV Q (f_L_cheapestCover_19   v)) : gG E m_L_cheapestCover d Q 0 0 (rS v) 19 [] [] := by
  refine g_iconst dL_cheapestCover_19 (2 : Int32) (by decide) ?_
  exact g_iret rfl dL_cheapestCover_20 hQ
def f_L_cheapestCover_0  (x1 : Int32) (x2 : Int32) (v : gV) : Int32 × gV := Sum.elim (fun (sr2 : Int32) => f_L_cheapestCover_8  sr2 (0 : Int32) (f_X11_cheapestCover x1 x2 v).2) (fun (e : String) => if e = "java/lang/IllegalArgumentException" then (f_L_cheapestCover_15   (f_X11_cheapestCover x1 x2 v).2) else (if e = "java/util/NoSuchElementException" then (f_L_cheapestCover_19   (f_X11_cheapestCover x1 x2 v).2) else ((0, v)))) (f_X11_cheapestCover x1 x2 v).1
def p_L_cheapestCover_0  (x1 : Int32) (x2 : Int32) (v : gV) : Prop := (p_X11_cheapestCover x1 x2 v) ∧ ((∀ (sr2 : Int32), (f_X11_cheapestCover x1 x2 v).1 = Sum.inl sr2 → (p_L_cheapestCover_8   sr2 (0 : Int32) (f_X11_cheapestCover x1 x2 v).2)) ∧ (∀ (e : String), (f_X11_cheapestCover x1 x2 v).1 = Sum.inr e → (((e = "java/lang/IllegalArgumentException") → (p_L_cheapestCover_15    (f_X11_cheapestCover x1 x2 v).2)) ∧ (¬ (e = "java/lang/IllegalArgumentException") → (((e = "java/util/NoSuchElementException") → (p_L_cheapestCover_19    (f_X11_cheapestCover x1 x2 v).2)) ∧ (¬ (e = "java/util/NoSuchElementException") → (False)))))))
set_option maxHeartbeats 4000000 in
set_option maxRecDepth 100000 in
theorem w_L_cheapestCover_0 {E : gE} {d : Nat} {Q : gO → gS → Prop}   (hd : 9 ≤ d) (x1 : Int32) (x2 : Int32) (v : gV) (hp : p_L_cheapestCover_0   x1 x2 v) (hQ : gqIV Q (f_L_cheapestCover_0  x1 x2 v)) : gG E m_L_cheapestCover d Q 3 18 (rS v) 0 [(0, .ref (gX E + 0)), (1, .int x1), (2, .int x2), (3, .ref (gX E + 570))] [] := by
  refine g_aload_n 3 dL_cheapestCover_0 rfl ?_
  refine g_iconst dL_cheapestCover_1 (0 : Int32) (by decide) ?_
  refine g_aload_n 0 dL_cheapestCover_2 rfl ?_
  refine g_iload_n 1 dL_cheapestCover_3 rfl ?_
  refine g_iload_n 2 dL_cheapestCover_4 rfl ?_
  obtain ⟨h1, hp⟩ := hp
  refine g_callV (rest := [.int ((0 : Int32)), .ref (gX E + 570)]) s_L_132_X11 rfl (c_X11_cheapestCover (E := E) (d := d - 1)   (by omega) x1 x2 v h1) (by decide : kd 0 = (0, 8)) (show 0 < 572 by decide) rfl rfl (Nat.le_of_ble_eq_true rfl) (by omega) (by decide) (by decide) dL_cheapestCover_5 (adTI (fun sr2 h3 => ?_)) (axTI (fun e h3 => ?_))
  · have hQ := ql (P := gqIV Q) h3 hQ
    have hp := hp.1 sr2 h3
    refine g_lv (lv' := []) [] rfl ?_
    exact w_L_cheapestCover_8  hd    sr2 (0 : Int32) (f_X11_cheapestCover x1 x2 v).2 hp hQ
  · have hQ := qe (P := gqIV Q) h3 hQ
    have hp := hp.2 e h3
    by_cases h5 : e = "java/lang/IllegalArgumentException"
    · subst h5
      have hQ := qp (P := gqIV Q) rfl hQ
      have hp := hp.1 rfl
      refine g_catch2 [] (0, 10, 13, 13) [(0, 10, 17, 21)] rfl (fun z hz => absurd hz List.not_mem_nil) (by decide) (by decide) w_722 w_753 (fun q => ?_)
      refine g_astore [(4, .ref q), (0, .ref (gX E + 0)), (1, .int x1), (2, .int x2), (3, .ref (gX E + 570))] dL_cheapestCover_13 (by decide) rfl ?_
      refine g_lv (lv' := []) [] rfl ?_
      exact w_L_cheapestCover_15  hd     (f_X11_cheapestCover x1 x2 v).2 hp hQ
    have hQ := qn (P := gqIV Q) h5 hQ
    have hp := hp.2 h5
    by_cases h6 : e = "java/util/NoSuchElementException"
    · subst h6
      have hQ := qp (P := gqIV Q) rfl hQ
      have hp := hp.1 rfl
      refine g_catch2 [(0, 10, 13, 13)] (0, 10, 17, 21) [] rfl (List.forall_mem_cons.mpr ⟨⟨by decide, "java/lang/IllegalArgumentException", w_722, fun s hK => gnc (by decide +kernel) hK⟩, (fun z hz => absurd hz List.not_mem_nil)⟩) (by decide) (by decide) w_860 w_880 (fun q => ?_)
      refine g_astore [(4, .ref q), (0, .ref (gX E + 0)), (1, .int x1), (2, .int x2), (3, .ref (gX E + 570))] dL_cheapestCover_17 (by decide) rfl ?_
      refine g_lv (lv' := []) [] rfl ?_
      exact w_L_cheapestCover_19  hd     (f_X11_cheapestCover x1 x2 v).2 hp hQ
    have hQ := qn (P := gqIV Q) h6 hQ
    have hp := hp.2 h6
    exact hp.elim
def f_L_cheapestCover  (x1 : Int32) (x2 : Int32) (v : gV) : Int32 × gV := f_L_cheapestCover_0 x1 x2 v
def p_L_cheapestCover  (x1 : Int32) (x2 : Int32) (v : gV) : Prop := p_L_cheapestCover_0 x1 x2 v
theorem c_L_cheapestCover {E : gE} {d : Nat}   (hd : 9 ≤ d) (x1 : Int32) (x2 : Int32) (v : gV) (hp : p_L_cheapestCover x1 x2 v) : CT E m_L_cheapestCover d 3 18 [.ref (gX E + 0), .int x1, .int x2, .ref (gX E + 570)] (rS v) (Cq (.inl (some (.int ((f_L_cheapestCover x1 x2 v).1)))) (f_L_cheapestCover x1 x2 v).2) := CT.ofH ok_L_cheapestCover rfl (Nat.le_of_ble_eq_true rfl) (w_L_cheapestCover_0  hd x1 x2 v hp ⟨rfl, rfl⟩)
def f_L_policyByLoad_9   (v : gV) : Int32 × gV := ((0 : Int32), v)
def p_L_policyByLoad_9   (v : gV) : Prop := True
set_option maxHeartbeats 4000000 in
set_option maxRecDepth 100000 in
theorem w_L_policyByLoad_9 {E : gE} {d : Nat} {Q : gO → gS → Prop}   (hd : 9 ≤ d)  (v : gV) (hp : p_L_policyByLoad_9    v) (hQ : gqIV Q (f_L_policyByLoad_9   v)) : gG E m_L_policyByLoad d Q 0 0 (rS v) 9 [] [] := by
  refine g_goto 15 dL_policyByLoad_9 (by decide) ?_
  refine g_iconst dL_policyByLoad_15 (0 : Int32) (by decide) ?_
  exact g_iret rfl dL_policyByLoad_16 hQ
def f_L_policyByLoad_7  (s0 : Int32) (s1 : Int32) (v : gV) : Int32 × gV := f_L_policyByLoad_9   (vL v 570 s1.toNatClampNeg s0.toInt64)
def p_L_policyByLoad_7  (s0 : Int32) (s1 : Int32) (v : gV) : Prop := (vp_in s1 1) ∧ (p_L_policyByLoad_9    (vL v 570 s1.toNatClampNeg s0.toInt64))
set_option maxHeartbeats 4000000 in
set_option maxRecDepth 100000 in
theorem w_L_policyByLoad_7 {E : gE} {d : Nat} {Q : gO → gS → Prop}   (hd : 9 ≤ d) (s0 : Int32) (s1 : Int32) (v : gV) (hp : p_L_policyByLoad_7   s0 s1 v) (hQ : gqIV Q (f_L_policyByLoad_7  s0 s1 v)) : gG E m_L_policyByLoad d Q 0 0 (rS v) 7 [] [.int s0, .int s1, .ref (gX E + 570)] := by
  refine g_i2l dL_policyByLoad_7 ?_
  obtain ⟨h4, hp⟩ := hp
  refine r_last (by decide : kd 570 = (3, 1)) (show 570 < 572 by decide) h4 dL_policyByLoad_8 ?_
  exact w_L_policyByLoad_9  hd     (vL v 570 s1.toNatClampNeg s0.toInt64) hp hQ
def f_L_policyByLoad_13   (v : gV) : Int32 × gV := ((1 : Int32), v)
def p_L_policyByLoad_13   (v : gV) : Prop := True
set_option maxHeartbeats 4000000 in
set_option maxRecDepth 100000 in
theorem w_L_policyByLoad_13 {E : gE} {d : Nat} {Q : gO → gS → Prop}   (hd : 9 ≤ d)  (v : gV) (hp : p_L_policyByLoad_13    v) (hQ : gqIV Q (f_L_policyByLoad_13   v)) : gG E m_L_policyByLoad d Q 0 0 (rS v) 13 [] [] := by
  refine g_iconst dL_policyByLoad_13 (1 : Int32) (by decide) ?_
  exact g_iret rfl dL_policyByLoad_14 hQ
def f_L_policyByLoad_0  (x1 : Int32) (v : gV) : Int32 × gV := Sum.elim (fun (sr2 : Int32) => f_L_policyByLoad_7  sr2 (0 : Int32) v) (fun (e : String) => if e = "java/util/NoSuchElementException" then (f_L_policyByLoad_13   v) else ((0, v))) (f_X11_policyByLoad x1 v)
def p_L_policyByLoad_0  (x1 : Int32) (v : gV) : Prop := (p_X11_policyByLoad x1 v) ∧ ((∀ (sr2 : Int32), (f_X11_policyByLoad x1 v) = Sum.inl sr2 → (p_L_policyByLoad_7   sr2 (0 : Int32) v)) ∧ (∀ (e : String), (f_X11_policyByLoad x1 v) = Sum.inr e → (((e = "java/util/NoSuchElementException") → (p_L_policyByLoad_13    v)) ∧ (¬ (e = "java/util/NoSuchElementException") → (False)))))
set_option maxHeartbeats 4000000 in
set_option maxRecDepth 100000 in
theorem w_L_policyByLoad_0 {E : gE} {d : Nat} {Q : gO → gS → Prop}   (hd : 9 ≤ d) (x1 : Int32) (v : gV) (hp : p_L_policyByLoad_0   x1 v) (hQ : gqIV Q (f_L_policyByLoad_0  x1 v)) : gG E m_L_policyByLoad d Q 1 6 (rS v) 0 [(0, .ref (gX E + 0)), (1, .int x1), (2, .ref (gX E + 570))] [] := by
  refine g_aload_n 2 dL_policyByLoad_0 rfl ?_
  refine g_iconst dL_policyByLoad_1 (0 : Int32) (by decide) ?_
  refine g_aload_n 0 dL_policyByLoad_2 rfl ?_
  refine g_iload_n 1 dL_policyByLoad_3 rfl ?_
  obtain ⟨h1, hp⟩ := hp
  refine g_callV (rest := [.int ((0 : Int32)), .ref (gX E + 570)]) s_L_138_X11 rfl (c_X11_policyByLoad (E := E) (d := d - 1)   (by omega) x1 v h1) (by decide : kd 0 = (0, 8)) (show 0 < 572 by decide) rfl rfl (Nat.le_of_ble_eq_true rfl) (by omega) (by decide) (by decide) dL_policyByLoad_4 (adTI (fun sr2 h3 => ?_)) (axTI (fun e h3 => ?_))
  · have hQ := ql (P := gqIV Q) h3 hQ
    have hp := hp.1 sr2 h3
    refine g_lv (lv' := []) [] rfl ?_
    exact w_L_policyByLoad_7  hd    sr2 (0 : Int32) v hp hQ
  · have hQ := qe (P := gqIV Q) h3 hQ
    have hp := hp.2 e h3
    by_cases h5 : e = "java/util/NoSuchElementException"
    · subst h5
      have hQ := qp (P := gqIV Q) rfl hQ
      have hp := hp.1 rfl
      refine g_catch2 [] (0, 9, 12, 21) [] rfl (fun z hz => absurd hz List.not_mem_nil) (by decide) (by decide) w_860 w_880 (fun q => ?_)
      refine g_astore_n [(3, .ref q), (0, .ref (gX E + 0)), (1, .int x1), (2, .ref (gX E + 570))] dL_policyByLoad_12 rfl (by decide) rfl ?_
      refine g_lv (lv' := []) [] rfl ?_
      exact w_L_policyByLoad_13  hd     v hp hQ
    have hQ := qn (P := gqIV Q) h5 hQ
    have hp := hp.2 h5
    exact hp.elim
def f_L_policyByLoad  (x1 : Int32) (v : gV) : Int32 × gV := f_L_policyByLoad_0 x1 v
def p_L_policyByLoad  (x1 : Int32) (v : gV) : Prop := p_L_policyByLoad_0 x1 v
theorem c_L_policyByLoad {E : gE} {d : Nat}   (hd : 9 ≤ d) (x1 : Int32) (v : gV) (hp : p_L_policyByLoad x1 v) : CT E m_L_policyByLoad d 1 6 [.ref (gX E + 0), .int x1, .ref (gX E + 570)] (rS v) (Cq (.inl (some (.int ((f_L_policyByLoad x1 v).1)))) (f_L_policyByLoad x1 v).2) := CT.ofH ok_L_policyByLoad rfl (Nat.le_of_ble_eq_true rfl) (w_L_policyByLoad_0  hd x1 v hp ⟨rfl, rfl⟩)
def f_L_claimByUnpaid_9   (v : gV) : Int32 × gV := ((0 : Int32), v)
def p_L_claimByUnpaid_9   (v : gV) : Prop := True
set_option maxHeartbeats 4000000 in
set_option maxRecDepth 100000 in
theorem w_L_claimByUnpaid_9 {E : gE} {d : Nat} {Q : gO → gS → Prop}   (hd : 9 ≤ d)  (v : gV) (hp : p_L_claimByUnpaid_9    v) (hQ : gqIV Q (f_L_claimByUnpaid_9   v)) : gG E m_L_claimByUnpaid d Q 0 0 (rS v) 9 [] [] := by
  refine g_goto 15 dL_claimByUnpaid_9 (by decide) ?_
  refine g_iconst dL_claimByUnpaid_15 (0 : Int32) (by decide) ?_
  exact g_iret rfl dL_claimByUnpaid_16 hQ
def f_L_claimByUnpaid_7  (s0 : Int32) (s1 : Int32) (v : gV) : Int32 × gV := f_L_claimByUnpaid_9   (vL v 570 s1.toNatClampNeg s0.toInt64)
def p_L_claimByUnpaid_7  (s0 : Int32) (s1 : Int32) (v : gV) : Prop := (vp_in s1 1) ∧ (p_L_claimByUnpaid_9    (vL v 570 s1.toNatClampNeg s0.toInt64))
set_option maxHeartbeats 4000000 in
set_option maxRecDepth 100000 in
theorem w_L_claimByUnpaid_7 {E : gE} {d : Nat} {Q : gO → gS → Prop}   (hd : 9 ≤ d) (s0 : Int32) (s1 : Int32) (v : gV) (hp : p_L_claimByUnpaid_7   s0 s1 v) (hQ : gqIV Q (f_L_claimByUnpaid_7  s0 s1 v)) : gG E m_L_claimByUnpaid d Q 0 0 (rS v) 7 [] [.int s0, .int s1, .ref (gX E + 570)] := by
  refine g_i2l dL_claimByUnpaid_7 ?_
  obtain ⟨h4, hp⟩ := hp
  refine r_last (by decide : kd 570 = (3, 1)) (show 570 < 572 by decide) h4 dL_claimByUnpaid_8 ?_
  exact w_L_claimByUnpaid_9  hd     (vL v 570 s1.toNatClampNeg s0.toInt64) hp hQ
def f_L_claimByUnpaid_13   (v : gV) : Int32 × gV := ((1 : Int32), v)
def p_L_claimByUnpaid_13   (v : gV) : Prop := True
set_option maxHeartbeats 4000000 in
set_option maxRecDepth 100000 in
theorem w_L_claimByUnpaid_13 {E : gE} {d : Nat} {Q : gO → gS → Prop}   (hd : 9 ≤ d)  (v : gV) (hp : p_L_claimByUnpaid_13    v) (hQ : gqIV Q (f_L_claimByUnpaid_13   v)) : gG E m_L_claimByUnpaid d Q 0 0 (rS v) 13 [] [] := by
  refine g_iconst dL_claimByUnpaid_13 (1 : Int32) (by decide) ?_
  exact g_iret rfl dL_claimByUnpaid_14 hQ
def f_L_claimByUnpaid_0  (x1 : Int32) (v : gV) : Int32 × gV := Sum.elim (fun (sr2 : Int32) => f_L_claimByUnpaid_7  sr2 (0 : Int32) v) (fun (e : String) => if e = "java/util/NoSuchElementException" then (f_L_claimByUnpaid_13   v) else ((0, v))) (f_X11_claimByUnpaid x1 v)
def p_L_claimByUnpaid_0  (x1 : Int32) (v : gV) : Prop := (p_X11_claimByUnpaid x1 v) ∧ ((∀ (sr2 : Int32), (f_X11_claimByUnpaid x1 v) = Sum.inl sr2 → (p_L_claimByUnpaid_7   sr2 (0 : Int32) v)) ∧ (∀ (e : String), (f_X11_claimByUnpaid x1 v) = Sum.inr e → (((e = "java/util/NoSuchElementException") → (p_L_claimByUnpaid_13    v)) ∧ (¬ (e = "java/util/NoSuchElementException") → (False)))))
set_option maxHeartbeats 4000000 in
set_option maxRecDepth 100000 in
theorem w_L_claimByUnpaid_0 {E : gE} {d : Nat} {Q : gO → gS → Prop}   (hd : 9 ≤ d) (x1 : Int32) (v : gV) (hp : p_L_claimByUnpaid_0   x1 v) (hQ : gqIV Q (f_L_claimByUnpaid_0  x1 v)) : gG E m_L_claimByUnpaid d Q 1 6 (rS v) 0 [(0, .ref (gX E + 0)), (1, .int x1), (2, .ref (gX E + 570))] [] := by
  refine g_aload_n 2 dL_claimByUnpaid_0 rfl ?_
  refine g_iconst dL_claimByUnpaid_1 (0 : Int32) (by decide) ?_
  refine g_aload_n 0 dL_claimByUnpaid_2 rfl ?_
  refine g_iload_n 1 dL_claimByUnpaid_3 rfl ?_
  obtain ⟨h1, hp⟩ := hp
  refine g_callV (rest := [.int ((0 : Int32)), .ref (gX E + 570)]) s_L_141_X11 rfl (c_X11_claimByUnpaid (E := E) (d := d - 1)   (by omega) x1 v h1) (by decide : kd 0 = (0, 8)) (show 0 < 572 by decide) rfl rfl (Nat.le_of_ble_eq_true rfl) (by omega) (by decide) (by decide) dL_claimByUnpaid_4 (adTI (fun sr2 h3 => ?_)) (axTI (fun e h3 => ?_))
  · have hQ := ql (P := gqIV Q) h3 hQ
    have hp := hp.1 sr2 h3
    refine g_lv (lv' := []) [] rfl ?_
    exact w_L_claimByUnpaid_7  hd    sr2 (0 : Int32) v hp hQ
  · have hQ := qe (P := gqIV Q) h3 hQ
    have hp := hp.2 e h3
    by_cases h5 : e = "java/util/NoSuchElementException"
    · subst h5
      have hQ := qp (P := gqIV Q) rfl hQ
      have hp := hp.1 rfl
      refine g_catch2 [] (0, 9, 12, 21) [] rfl (fun z hz => absurd hz List.not_mem_nil) (by decide) (by decide) w_860 w_880 (fun q => ?_)
      refine g_astore_n [(3, .ref q), (0, .ref (gX E + 0)), (1, .int x1), (2, .ref (gX E + 570))] dL_claimByUnpaid_12 rfl (by decide) rfl ?_
      refine g_lv (lv' := []) [] rfl ?_
      exact w_L_claimByUnpaid_13  hd     v hp hQ
    have hQ := qn (P := gqIV Q) h5 hQ
    have hp := hp.2 h5
    exact hp.elim
def f_L_claimByUnpaid  (x1 : Int32) (v : gV) : Int32 × gV := f_L_claimByUnpaid_0 x1 v
def p_L_claimByUnpaid  (x1 : Int32) (v : gV) : Prop := p_L_claimByUnpaid_0 x1 v
theorem c_L_claimByUnpaid {E : gE} {d : Nat}   (hd : 9 ≤ d) (x1 : Int32) (v : gV) (hp : p_L_claimByUnpaid x1 v) : CT E m_L_claimByUnpaid d 1 6 [.ref (gX E + 0), .int x1, .ref (gX E + 570)] (rS v) (Cq (.inl (some (.int ((f_L_claimByUnpaid x1 v).1)))) (f_L_claimByUnpaid x1 v).2) := CT.ofH ok_L_claimByUnpaid rfl (Nat.le_of_ble_eq_true rfl) (w_L_claimByUnpaid_0  hd x1 v hp ⟨rfl, rfl⟩)
def f_L_meanSum_7   (v : gV) : Int32 × gV := ((0 : Int32), v)
def p_L_meanSum_7   (v : gV) : Prop := True
set_option maxHeartbeats 4000000 in
set_option maxRecDepth 100000 in
theorem w_L_meanSum_7 {E : gE} {d : Nat} {Q : gO → gS → Prop}   (hd : 8 ≤ d)  (v : gV) (hp : p_L_meanSum_7    v) (hQ : gqIV Q (f_L_meanSum_7   v)) : gG E m_L_meanSum d Q 0 0 (rS v) 7 [] [] := by
  refine g_goto 13 dL_meanSum_7 (by decide) ?_
  refine g_iconst dL_meanSum_13 (0 : Int32) (by decide) ?_
  exact g_iret rfl dL_meanSum_14 hQ
def f_L_meanSum_6  (s0 : UInt64) (s1 : Int32) (v : gV) : Int32 × gV := f_L_meanSum_7   (vF v s1.toNatClampNeg s0)
def p_L_meanSum_6  (s0 : UInt64) (s1 : Int32) (v : gV) : Prop := (vp_in s1 1) ∧ (p_L_meanSum_7    (vF v s1.toNatClampNeg s0))
set_option maxHeartbeats 4000000 in
set_option maxRecDepth 100000 in
theorem w_L_meanSum_6 {E : gE} {d : Nat} {Q : gO → gS → Prop}   (hd : 8 ≤ d) (s0 : UInt64) (s1 : Int32) (v : gV) (hp : p_L_meanSum_6   s0 s1 v) (hQ : gqIV Q (f_L_meanSum_6  s0 s1 v)) : gG E m_L_meanSum d Q 0 0 (rS v) 6 [] [.double s0, .int s1, .ref (gX E + 571)] := by
  obtain ⟨h4, hp⟩ := hp
  refine r_dast (by decide : kd 571 = (6, 1)) h4 dL_meanSum_6 ?_
  exact w_L_meanSum_7  hd     (vF v s1.toNatClampNeg s0) hp hQ
def f_L_meanSum_11   (v : gV) : Int32 × gV := ((1 : Int32), v)
def p_L_meanSum_11   (v : gV) : Prop := True
set_option maxHeartbeats 4000000 in
set_option maxRecDepth 100000 in
theorem w_L_meanSum_11 {E : gE} {d : Nat} {Q : gO → gS → Prop}   (hd : 8 ≤ d)  (v : gV) (hp : p_L_meanSum_11    v) (hQ : gqIV Q (f_L_meanSum_11   v)) : gG E m_L_meanSum d Q 0 0 (rS v) 11 [] [] := by
  refine g_iconst dL_meanSum_11 (1 : Int32) (by decide) ?_
  exact g_iret rfl dL_meanSum_12 hQ
def f_L_meanSum_0   (v : gV) : Int32 × gV := Sum.elim (fun (sr2 : UInt64) => f_L_meanSum_6  sr2 (0 : Int32) v) (fun (e : String) => if e = "java/lang/ArithmeticException" then (f_L_meanSum_11   v) else ((0, v))) (f_X11_meanSum  v)
def p_L_meanSum_0   (v : gV) : Prop := (p_X11_meanSum  v) ∧ ((∀ (sr2 : UInt64), (f_X11_meanSum  v) = Sum.inl sr2 → (p_L_meanSum_6   sr2 (0 : Int32) v)) ∧ (∀ (e : String), (f_X11_meanSum  v) = Sum.inr e → (((e = "java/lang/ArithmeticException") → (p_L_meanSum_11    v)) ∧ (¬ (e = "java/lang/ArithmeticException") → (False)))))
set_option maxHeartbeats 4000000 in
set_option maxRecDepth 100000 in
theorem w_L_meanSum_0 {E : gE} {d : Nat} {Q : gO → gS → Prop}   (hd : 8 ≤ d)  (v : gV) (hp : p_L_meanSum_0    v) (hQ : gqIV Q (f_L_meanSum_0   v)) : gG E m_L_meanSum d Q 1 6 (rS v) 0 [(0, .ref (gX E + 0)), (1, .ref (gX E + 571))] [] := by
  refine g_aload_n 1 dL_meanSum_0 rfl ?_
  refine g_iconst dL_meanSum_1 (0 : Int32) (by decide) ?_
  refine g_aload_n 0 dL_meanSum_2 rfl ?_
  obtain ⟨h1, hp⟩ := hp
  refine g_callV (rest := [.int ((0 : Int32)), .ref (gX E + 571)]) s_L_144_X11 rfl (c_X11_meanSum (E := E) (d := d - 1)   (by omega)  v h1) (by decide : kd 0 = (0, 8)) (show 0 < 572 by decide) rfl rfl (Nat.le_of_ble_eq_true rfl) (by omega) (by decide) (by decide) dL_meanSum_3 (adTD (fun sr2 h3 => ?_)) (axTD (fun e h3 => ?_))
  · have hQ := ql (P := gqIV Q) h3 hQ
    have hp := hp.1 sr2 h3
    refine g_lv (lv' := []) [] rfl ?_
    exact w_L_meanSum_6  hd    sr2 (0 : Int32) v hp hQ
  · have hQ := qe (P := gqIV Q) h3 hQ
    have hp := hp.2 e h3
    by_cases h5 : e = "java/lang/ArithmeticException"
    · subst h5
      have hQ := qp (P := gqIV Q) rfl hQ
      have hp := hp.1 rfl
      refine g_catch2 [] (0, 7, 10, 148) [] rfl (fun z hz => absurd hz List.not_mem_nil) (by decide) (by decide) w_1397 w_1409 (fun q => ?_)
      refine g_astore_n [(2, .ref q), (0, .ref (gX E + 0)), (1, .ref (gX E + 571))] dL_meanSum_10 rfl (by decide) rfl ?_
      refine g_lv (lv' := []) [] rfl ?_
      exact w_L_meanSum_11  hd     v hp hQ
    have hQ := qn (P := gqIV Q) h5 hQ
    have hp := hp.2 h5
    exact hp.elim
def f_L_meanSum   (v : gV) : Int32 × gV := f_L_meanSum_0  v
def p_L_meanSum   (v : gV) : Prop := p_L_meanSum_0  v
theorem c_L_meanSum {E : gE} {d : Nat}   (hd : 8 ≤ d)  (v : gV) (hp : p_L_meanSum  v) : CT E m_L_meanSum d 1 6 [.ref (gX E + 0), .ref (gX E + 571)] (rS v) (Cq (.inl (some (.int ((f_L_meanSum  v).1)))) (f_L_meanSum  v).2) := CT.ofH ok_L_meanSum rfl (Nat.le_of_ble_eq_true rfl) (w_L_meanSum_0  hd  v hp ⟨rfl, rfl⟩)
def f_L_paidShare_8   (v : gV) : Int32 × gV := ((0 : Int32), v)
def p_L_paidShare_8   (v : gV) : Prop := True
set_option maxHeartbeats 4000000 in
set_option maxRecDepth 100000 in
theorem w_L_paidShare_8 {E : gE} {d : Nat} {Q : gO → gS → Prop}   (hd : 8 ≤ d)  (v : gV) (hp : p_L_paidShare_8    v) (hQ : gqIV Q (f_L_paidShare_8   v)) : gG E m_L_paidShare d Q 0 0 (rS v) 8 [] [] := by
  refine g_goto 14 dL_paidShare_8 (by decide) ?_
  refine g_iconst dL_paidShare_14 (0 : Int32) (by decide) ?_
  exact g_iret rfl dL_paidShare_15 hQ
def f_L_paidShare_6  (s0 : UInt32) (s1 : Int32) (v : gV) : Int32 × gV := f_L_paidShare_8   (vF v s1.toNatClampNeg (FP.f2d s0))
def p_L_paidShare_6  (s0 : UInt32) (s1 : Int32) (v : gV) : Prop := (vf_n64 (FP.f2d s0)) ∧ ((vp_in s1 1) ∧ (p_L_paidShare_8    (vF v s1.toNatClampNeg (FP.f2d s0))))
set_option maxHeartbeats 4000000 in
set_option maxRecDepth 100000 in
theorem w_L_paidShare_6 {E : gE} {d : Nat} {Q : gO → gS → Prop}   (hd : 8 ≤ d) (s0 : UInt32) (s1 : Int32) (v : gV) (hp : p_L_paidShare_6   s0 s1 v) (hQ : gqIV Q (f_L_paidShare_6  s0 s1 v)) : gG E m_L_paidShare d Q 0 0 (rS v) 6 [] [.float s0, .int s1, .ref (gX E + 571)] := by
  obtain ⟨h4, hp⟩ := hp
  refine g_f2d dL_paidShare_6 h4 ?_
  obtain ⟨h5, hp⟩ := hp
  refine r_dast (by decide : kd 571 = (6, 1)) h5 dL_paidShare_7 ?_
  exact w_L_paidShare_8  hd     (vF v s1.toNatClampNeg (FP.f2d s0)) hp hQ
def f_L_paidShare_12   (v : gV) : Int32 × gV := ((1 : Int32), v)
def p_L_paidShare_12   (v : gV) : Prop := True
set_option maxHeartbeats 4000000 in
set_option maxRecDepth 100000 in
theorem w_L_paidShare_12 {E : gE} {d : Nat} {Q : gO → gS → Prop}   (hd : 8 ≤ d)  (v : gV) (hp : p_L_paidShare_12    v) (hQ : gqIV Q (f_L_paidShare_12   v)) : gG E m_L_paidShare d Q 0 0 (rS v) 12 [] [] := by
  refine g_iconst dL_paidShare_12 (1 : Int32) (by decide) ?_
  exact g_iret rfl dL_paidShare_13 hQ
def f_L_paidShare_0   (v : gV) : Int32 × gV := Sum.elim (fun (sr2 : UInt32) => f_L_paidShare_6  sr2 (0 : Int32) v) (fun (e : String) => if e = "java/lang/ArithmeticException" then (f_L_paidShare_12   v) else ((0, v))) (f_X11_paidShare  v)
def p_L_paidShare_0   (v : gV) : Prop := (p_X11_paidShare  v) ∧ ((∀ (sr2 : UInt32), (f_X11_paidShare  v) = Sum.inl sr2 → (p_L_paidShare_6   sr2 (0 : Int32) v)) ∧ (∀ (e : String), (f_X11_paidShare  v) = Sum.inr e → (((e = "java/lang/ArithmeticException") → (p_L_paidShare_12    v)) ∧ (¬ (e = "java/lang/ArithmeticException") → (False)))))
set_option maxHeartbeats 4000000 in
set_option maxRecDepth 100000 in
theorem w_L_paidShare_0 {E : gE} {d : Nat} {Q : gO → gS → Prop}   (hd : 8 ≤ d)  (v : gV) (hp : p_L_paidShare_0    v) (hQ : gqIV Q (f_L_paidShare_0   v)) : gG E m_L_paidShare d Q 1 6 (rS v) 0 [(0, .ref (gX E + 0)), (1, .ref (gX E + 571))] [] := by
  refine g_aload_n 1 dL_paidShare_0 rfl ?_
  refine g_iconst dL_paidShare_1 (0 : Int32) (by decide) ?_
  refine g_aload_n 0 dL_paidShare_2 rfl ?_
  obtain ⟨h1, hp⟩ := hp
  refine g_callV (rest := [.int ((0 : Int32)), .ref (gX E + 571)]) s_L_150_X11 rfl (c_X11_paidShare (E := E) (d := d - 1)   (by omega)  v h1) (by decide : kd 0 = (0, 8)) (show 0 < 572 by decide) rfl rfl (Nat.le_of_ble_eq_true rfl) (by omega) (by decide) (by decide) dL_paidShare_3 (adTF (fun sr2 h3 => ?_)) (axTF (fun e h3 => ?_))
  · have hQ := ql (P := gqIV Q) h3 hQ
    have hp := hp.1 sr2 h3
    refine g_lv (lv' := []) [] rfl ?_
    exact w_L_paidShare_6  hd    sr2 (0 : Int32) v hp hQ
  · have hQ := qe (P := gqIV Q) h3 hQ
    have hp := hp.2 e h3
    by_cases h6 : e = "java/lang/ArithmeticException"
    · subst h6
      have hQ := qp (P := gqIV Q) rfl hQ
      have hp := hp.1 rfl
      refine g_catch2 [] (0, 8, 11, 148) [] rfl (fun z hz => absurd hz List.not_mem_nil) (by decide) (by decide) w_1397 w_1409 (fun q => ?_)
      refine g_astore_n [(2, .ref q), (0, .ref (gX E + 0)), (1, .ref (gX E + 571))] dL_paidShare_11 rfl (by decide) rfl ?_
      refine g_lv (lv' := []) [] rfl ?_
      exact w_L_paidShare_12  hd     v hp hQ
    have hQ := qn (P := gqIV Q) h6 hQ
    have hp := hp.2 h6
    exact hp.elim
def f_L_paidShare   (v : gV) : Int32 × gV := f_L_paidShare_0  v
def p_L_paidShare   (v : gV) : Prop := p_L_paidShare_0  v
theorem c_L_paidShare {E : gE} {d : Nat}   (hd : 8 ≤ d)  (v : gV) (hp : p_L_paidShare  v) : CT E m_L_paidShare d 1 6 [.ref (gX E + 0), .ref (gX E + 571)] (rS v) (Cq (.inl (some (.int ((f_L_paidShare  v).1)))) (f_L_paidShare  v).2) := CT.ofH ok_L_paidShare rfl (Nat.le_of_ble_eq_true rfl) (w_L_paidShare_0  hd  v hp ⟨rfl, rfl⟩)
def f_L_errorPosition_8   (v : gV) : Int32 × gV := ((0 : Int32), v)
def p_L_errorPosition_8   (v : gV) : Prop := True
set_option maxHeartbeats 4000000 in
set_option maxRecDepth 100000 in
theorem w_L_errorPosition_8 {E : gE} {d : Nat} {Q : gO → gS → Prop}   (hd : 9 ≤ d)  (v : gV) (hp : p_L_errorPosition_8    v) (hQ : gqIV Q (f_L_errorPosition_8   v)) : gG E m_L_errorPosition d Q 0 0 (rS v) 8 [] [] := by
  refine g_goto 14 dL_errorPosition_8 (by decide) ?_
  refine g_iconst dL_errorPosition_14 (0 : Int32) (by decide) ?_
  exact g_iret rfl dL_errorPosition_15 hQ
def f_L_errorPosition_6  (s0 : Int32) (s1 : Int32) (v : gV) : Int32 × gV := f_L_errorPosition_8   (vL v 570 s1.toNatClampNeg s0.toInt64)
def p_L_errorPosition_6  (s0 : Int32) (s1 : Int32) (v : gV) : Prop := (vp_in s1 1) ∧ (p_L_errorPosition_8    (vL v 570 s1.toNatClampNeg s0.toInt64))
set_option maxHeartbeats 4000000 in
set_option maxRecDepth 100000 in
theorem w_L_errorPosition_6 {E : gE} {d : Nat} {Q : gO → gS → Prop}   (hd : 9 ≤ d) (s0 : Int32) (s1 : Int32) (v : gV) (hp : p_L_errorPosition_6   s0 s1 v) (hQ : gqIV Q (f_L_errorPosition_6  s0 s1 v)) : gG E m_L_errorPosition d Q 0 0 (rS v) 6 [] [.int s0, .int s1, .ref (gX E + 570)] := by
  refine g_i2l dL_errorPosition_6 ?_
  obtain ⟨h4, hp⟩ := hp
  refine r_last (by decide : kd 570 = (3, 1)) (show 570 < 572 by decide) h4 dL_errorPosition_7 ?_
  exact w_L_errorPosition_8  hd     (vL v 570 s1.toNatClampNeg s0.toInt64) hp hQ
def f_L_errorPosition_12   (v : gV) : Int32 × gV := ((1 : Int32), v)
def p_L_errorPosition_12   (v : gV) : Prop := True
set_option maxHeartbeats 4000000 in
set_option maxRecDepth 100000 in
theorem w_L_errorPosition_12 {E : gE} {d : Nat} {Q : gO → gS → Prop}   (hd : 9 ≤ d)  (v : gV) (hp : p_L_errorPosition_12    v) (hQ : gqIV Q (f_L_errorPosition_12   v)) : gG E m_L_errorPosition d Q 0 0 (rS v) 12 [] [] := by
  refine g_iconst dL_errorPosition_12 (1 : Int32) (by decide) ?_
  exact g_iret rfl dL_errorPosition_13 hQ
def f_L_errorPosition_0   (v : gV) : Int32 × gV := Sum.elim (fun (sr2 : Int32) => f_L_errorPosition_6  sr2 (0 : Int32) v) (fun (e : String) => if e = "java/util/NoSuchElementException" then (f_L_errorPosition_12   v) else ((0, v))) (f_X11_errorPosition  v)
def p_L_errorPosition_0   (v : gV) : Prop := (p_X11_errorPosition  v) ∧ ((∀ (sr2 : Int32), (f_X11_errorPosition  v) = Sum.inl sr2 → (p_L_errorPosition_6   sr2 (0 : Int32) v)) ∧ (∀ (e : String), (f_X11_errorPosition  v) = Sum.inr e → (((e = "java/util/NoSuchElementException") → (p_L_errorPosition_12    v)) ∧ (¬ (e = "java/util/NoSuchElementException") → (False)))))
set_option maxHeartbeats 4000000 in
set_option maxRecDepth 100000 in
theorem w_L_errorPosition_0 {E : gE} {d : Nat} {Q : gO → gS → Prop}   (hd : 9 ≤ d)  (v : gV) (hp : p_L_errorPosition_0    v) (hQ : gqIV Q (f_L_errorPosition_0   v)) : gG E m_L_errorPosition d Q 1 6 (rS v) 0 [(0, .ref (gX E + 0)), (1, .ref (gX E + 570))] [] := by
  refine g_aload_n 1 dL_errorPosition_0 rfl ?_
  refine g_iconst dL_errorPosition_1 (0 : Int32) (by decide) ?_
  refine g_aload_n 0 dL_errorPosition_2 rfl ?_
  obtain ⟨h1, hp⟩ := hp
  refine g_callV (rest := [.int ((0 : Int32)), .ref (gX E + 570)]) s_L_171_X11 rfl (c_X11_errorPosition (E := E) (d := d - 1)   (by omega)  v h1) (by decide : kd 0 = (0, 8)) (show 0 < 572 by decide) rfl rfl (Nat.le_of_ble_eq_true rfl) (by omega) (by decide) (by decide) dL_errorPosition_3 (adTI (fun sr2 h3 => ?_)) (axTI (fun e h3 => ?_))
  · have hQ := ql (P := gqIV Q) h3 hQ
    have hp := hp.1 sr2 h3
    refine g_lv (lv' := []) [] rfl ?_
    exact w_L_errorPosition_6  hd    sr2 (0 : Int32) v hp hQ
  · have hQ := qe (P := gqIV Q) h3 hQ
    have hp := hp.2 e h3
    by_cases h5 : e = "java/util/NoSuchElementException"
    · subst h5
      have hQ := qp (P := gqIV Q) rfl hQ
      have hp := hp.1 rfl
      refine g_catch2 [] (0, 8, 11, 21) [] rfl (fun z hz => absurd hz List.not_mem_nil) (by decide) (by decide) w_860 w_880 (fun q => ?_)
      refine g_astore_n [(2, .ref q), (0, .ref (gX E + 0)), (1, .ref (gX E + 570))] dL_errorPosition_11 rfl (by decide) rfl ?_
      refine g_lv (lv' := []) [] rfl ?_
      exact w_L_errorPosition_12  hd     v hp hQ
    have hQ := qn (P := gqIV Q) h5 hQ
    have hp := hp.2 h5
    exact hp.elim
def f_L_errorPosition   (v : gV) : Int32 × gV := f_L_errorPosition_0  v
def p_L_errorPosition   (v : gV) : Prop := p_L_errorPosition_0  v
theorem c_L_errorPosition {E : gE} {d : Nat}   (hd : 9 ≤ d)  (v : gV) (hp : p_L_errorPosition  v) : CT E m_L_errorPosition d 1 6 [.ref (gX E + 0), .ref (gX E + 570)] (rS v) (Cq (.inl (some (.int ((f_L_errorPosition  v).1)))) (f_L_errorPosition  v).2) := CT.ofH ok_L_errorPosition rfl (Nat.le_of_ble_eq_true rfl) (w_L_errorPosition_0  hd  v hp ⟨rfl, rfl⟩)
def f_L_failedCommand_8   (v : gV) : Int32 × gV := ((0 : Int32), v)
def p_L_failedCommand_8   (v : gV) : Prop := True
set_option maxHeartbeats 4000000 in
set_option maxRecDepth 100000 in
theorem w_L_failedCommand_8 {E : gE} {d : Nat} {Q : gO → gS → Prop}   (hd : 9 ≤ d)  (v : gV) (hp : p_L_failedCommand_8    v) (hQ : gqIV Q (f_L_failedCommand_8   v)) : gG E m_L_failedCommand d Q 0 0 (rS v) 8 [] [] := by
  refine g_goto 14 dL_failedCommand_8 (by decide) ?_
  refine g_iconst dL_failedCommand_14 (0 : Int32) (by decide) ?_
  exact g_iret rfl dL_failedCommand_15 hQ
def f_L_failedCommand_6  (s0 : Int32) (s1 : Int32) (v : gV) : Int32 × gV := f_L_failedCommand_8   (vL v 570 s1.toNatClampNeg s0.toInt64)
def p_L_failedCommand_6  (s0 : Int32) (s1 : Int32) (v : gV) : Prop := (vp_in s1 1) ∧ (p_L_failedCommand_8    (vL v 570 s1.toNatClampNeg s0.toInt64))
set_option maxHeartbeats 4000000 in
set_option maxRecDepth 100000 in
theorem w_L_failedCommand_6 {E : gE} {d : Nat} {Q : gO → gS → Prop}   (hd : 9 ≤ d) (s0 : Int32) (s1 : Int32) (v : gV) (hp : p_L_failedCommand_6   s0 s1 v) (hQ : gqIV Q (f_L_failedCommand_6  s0 s1 v)) : gG E m_L_failedCommand d Q 0 0 (rS v) 6 [] [.int s0, .int s1, .ref (gX E + 570)] := by
  refine g_i2l dL_failedCommand_6 ?_
  obtain ⟨h4, hp⟩ := hp
  refine r_last (by decide : kd 570 = (3, 1)) (show 570 < 572 by decide) h4 dL_failedCommand_7 ?_
  exact w_L_failedCommand_8  hd     (vL v 570 s1.toNatClampNeg s0.toInt64) hp hQ
def f_L_failedCommand_12   (v : gV) : Int32 × gV := ((1 : Int32), v)
def p_L_failedCommand_12   (v : gV) : Prop := True
set_option maxHeartbeats 4000000 in
set_option maxRecDepth 100000 in
theorem w_L_failedCommand_12 {E : gE} {d : Nat} {Q : gO → gS → Prop}   (hd : 9 ≤ d)  (v : gV) (hp : p_L_failedCommand_12    v) (hQ : gqIV Q (f_L_failedCommand_12   v)) : gG E m_L_failedCommand d Q 0 0 (rS v) 12 [] [] := by
  refine g_iconst dL_failedCommand_12 (1 : Int32) (by decide) ?_
  exact g_iret rfl dL_failedCommand_13 hQ
def f_L_failedCommand_0   (v : gV) : Int32 × gV := Sum.elim (fun (sr2 : Int32) => f_L_failedCommand_6  sr2 (0 : Int32) v) (fun (e : String) => if e = "java/util/NoSuchElementException" then (f_L_failedCommand_12   v) else ((0, v))) (f_X11_failedCommand  v)
def p_L_failedCommand_0   (v : gV) : Prop := (p_X11_failedCommand  v) ∧ ((∀ (sr2 : Int32), (f_X11_failedCommand  v) = Sum.inl sr2 → (p_L_failedCommand_6   sr2 (0 : Int32) v)) ∧ (∀ (e : String), (f_X11_failedCommand  v) = Sum.inr e → (((e = "java/util/NoSuchElementException") → (p_L_failedCommand_12    v)) ∧ (¬ (e = "java/util/NoSuchElementException") → (False)))))
set_option maxHeartbeats 4000000 in
set_option maxRecDepth 100000 in
theorem w_L_failedCommand_0 {E : gE} {d : Nat} {Q : gO → gS → Prop}   (hd : 9 ≤ d)  (v : gV) (hp : p_L_failedCommand_0    v) (hQ : gqIV Q (f_L_failedCommand_0   v)) : gG E m_L_failedCommand d Q 1 6 (rS v) 0 [(0, .ref (gX E + 0)), (1, .ref (gX E + 570))] [] := by
  refine g_aload_n 1 dL_failedCommand_0 rfl ?_
  refine g_iconst dL_failedCommand_1 (0 : Int32) (by decide) ?_
  refine g_aload_n 0 dL_failedCommand_2 rfl ?_
  obtain ⟨h1, hp⟩ := hp
  refine g_callV (rest := [.int ((0 : Int32)), .ref (gX E + 570)]) s_L_174_X11 rfl (c_X11_failedCommand (E := E) (d := d - 1)   (by omega)  v h1) (by decide : kd 0 = (0, 8)) (show 0 < 572 by decide) rfl rfl (Nat.le_of_ble_eq_true rfl) (by omega) (by decide) (by decide) dL_failedCommand_3 (adTI (fun sr2 h3 => ?_)) (axTI (fun e h3 => ?_))
  · have hQ := ql (P := gqIV Q) h3 hQ
    have hp := hp.1 sr2 h3
    refine g_lv (lv' := []) [] rfl ?_
    exact w_L_failedCommand_6  hd    sr2 (0 : Int32) v hp hQ
  · have hQ := qe (P := gqIV Q) h3 hQ
    have hp := hp.2 e h3
    by_cases h5 : e = "java/util/NoSuchElementException"
    · subst h5
      have hQ := qp (P := gqIV Q) rfl hQ
      have hp := hp.1 rfl
      refine g_catch2 [] (0, 8, 11, 21) [] rfl (fun z hz => absurd hz List.not_mem_nil) (by decide) (by decide) w_860 w_880 (fun q => ?_)
      refine g_astore_n [(2, .ref q), (0, .ref (gX E + 0)), (1, .ref (gX E + 570))] dL_failedCommand_11 rfl (by decide) rfl ?_
      refine g_lv (lv' := []) [] rfl ?_
      exact w_L_failedCommand_12  hd     v hp hQ
    have hQ := qn (P := gqIV Q) h5 hQ
    have hp := hp.2 h5
    exact hp.elim
def f_L_failedCommand   (v : gV) : Int32 × gV := f_L_failedCommand_0  v
def p_L_failedCommand   (v : gV) : Prop := p_L_failedCommand_0  v
theorem c_L_failedCommand {E : gE} {d : Nat}   (hd : 9 ≤ d)  (v : gV) (hp : p_L_failedCommand  v) : CT E m_L_failedCommand d 1 6 [.ref (gX E + 0), .ref (gX E + 570)] (rS v) (Cq (.inl (some (.int ((f_L_failedCommand  v).1)))) (f_L_failedCommand  v).2) := CT.ofH ok_L_failedCommand rfl (Nat.le_of_ble_eq_true rfl) (w_L_failedCommand_0  hd  v hp ⟨rfl, rfl⟩)
def f_L_borneByCoins_9   (v : gV) : Int32 × gV := ((0 : Int32), v)
def p_L_borneByCoins_9   (v : gV) : Prop := True
set_option maxHeartbeats 4000000 in
set_option maxRecDepth 100000 in
theorem w_L_borneByCoins_9 {E : gE} {d : Nat} {Q : gO → gS → Prop}   (hd : 9 ≤ d)  (v : gV) (hp : p_L_borneByCoins_9    v) (hQ : gqIV Q (f_L_borneByCoins_9   v)) : gG E m_L_borneByCoins d Q 0 0 (rS v) 9 [] [] := by
  refine g_goto 15 dL_borneByCoins_9 (by decide) ?_
  refine g_iconst dL_borneByCoins_15 (0 : Int32) (by decide) ?_
  exact g_iret rfl dL_borneByCoins_16 hQ
def f_L_borneByCoins_7  (s0 : Int32) (s1 : Int32) (v : gV) : Int32 × gV := f_L_borneByCoins_9   (vL v 570 s1.toNatClampNeg s0.toInt64)
def p_L_borneByCoins_7  (s0 : Int32) (s1 : Int32) (v : gV) : Prop := (vp_in s1 1) ∧ (p_L_borneByCoins_9    (vL v 570 s1.toNatClampNeg s0.toInt64))
set_option maxHeartbeats 4000000 in
set_option maxRecDepth 100000 in
theorem w_L_borneByCoins_7 {E : gE} {d : Nat} {Q : gO → gS → Prop}   (hd : 9 ≤ d) (s0 : Int32) (s1 : Int32) (v : gV) (hp : p_L_borneByCoins_7   s0 s1 v) (hQ : gqIV Q (f_L_borneByCoins_7  s0 s1 v)) : gG E m_L_borneByCoins d Q 0 0 (rS v) 7 [] [.int s0, .int s1, .ref (gX E + 570)] := by
  refine g_i2l dL_borneByCoins_7 ?_
  obtain ⟨h4, hp⟩ := hp
  refine r_last (by decide : kd 570 = (3, 1)) (show 570 < 572 by decide) h4 dL_borneByCoins_8 ?_
  exact w_L_borneByCoins_9  hd     (vL v 570 s1.toNatClampNeg s0.toInt64) hp hQ
def f_L_borneByCoins_13   (v : gV) : Int32 × gV := ((1 : Int32), v)
def p_L_borneByCoins_13   (v : gV) : Prop := True
set_option maxHeartbeats 4000000 in
set_option maxRecDepth 100000 in
theorem w_L_borneByCoins_13 {E : gE} {d : Nat} {Q : gO → gS → Prop}   (hd : 9 ≤ d)  (v : gV) (hp : p_L_borneByCoins_13    v) (hQ : gqIV Q (f_L_borneByCoins_13   v)) : gG E m_L_borneByCoins d Q 0 0 (rS v) 13 [] [] := by
  refine g_iconst dL_borneByCoins_13 (1 : Int32) (by decide) ?_
  exact g_iret rfl dL_borneByCoins_14 hQ
def f_L_borneByCoins_0  (x1 : Int32) (v : gV) : Int32 × gV := Sum.elim (fun (sr2 : Int32) => f_L_borneByCoins_7  sr2 (0 : Int32) (f_X11_borneByCoins x1 v).2) (fun (e : String) => if e = "java/lang/IllegalArgumentException" then (f_L_borneByCoins_13   (f_X11_borneByCoins x1 v).2) else ((0, v))) (f_X11_borneByCoins x1 v).1
def p_L_borneByCoins_0  (x1 : Int32) (v : gV) : Prop := (p_X11_borneByCoins x1 v) ∧ ((∀ (sr2 : Int32), (f_X11_borneByCoins x1 v).1 = Sum.inl sr2 → (p_L_borneByCoins_7   sr2 (0 : Int32) (f_X11_borneByCoins x1 v).2)) ∧ (∀ (e : String), (f_X11_borneByCoins x1 v).1 = Sum.inr e → (((e = "java/lang/IllegalArgumentException") → (p_L_borneByCoins_13    (f_X11_borneByCoins x1 v).2)) ∧ (¬ (e = "java/lang/IllegalArgumentException") → (False)))))
set_option maxHeartbeats 4000000 in
set_option maxRecDepth 100000 in
theorem w_L_borneByCoins_0 {E : gE} {d : Nat} {Q : gO → gS → Prop}   (hd : 9 ≤ d) (x1 : Int32) (v : gV) (hp : p_L_borneByCoins_0   x1 v) (hQ : gqIV Q (f_L_borneByCoins_0  x1 v)) : gG E m_L_borneByCoins d Q 1 6 (rS v) 0 [(0, .ref (gX E + 0)), (1, .int x1), (2, .ref (gX E + 570))] [] := by
  refine g_aload_n 2 dL_borneByCoins_0 rfl ?_
  refine g_iconst dL_borneByCoins_1 (0 : Int32) (by decide) ?_
  refine g_aload_n 0 dL_borneByCoins_2 rfl ?_
  refine g_iload_n 1 dL_borneByCoins_3 rfl ?_
  obtain ⟨h1, hp⟩ := hp
  refine g_callV (rest := [.int ((0 : Int32)), .ref (gX E + 570)]) s_L_113_X11 rfl (c_X11_borneByCoins (E := E) (d := d - 1)   (by omega) x1 v h1) (by decide : kd 0 = (0, 8)) (show 0 < 572 by decide) rfl rfl (Nat.le_of_ble_eq_true rfl) (by omega) (by decide) (by decide) dL_borneByCoins_4 (adTI (fun sr2 h3 => ?_)) (axTI (fun e h3 => ?_))
  · have hQ := ql (P := gqIV Q) h3 hQ
    have hp := hp.1 sr2 h3
    refine g_lv (lv' := []) [] rfl ?_
    exact w_L_borneByCoins_7  hd    sr2 (0 : Int32) (f_X11_borneByCoins x1 v).2 hp hQ
  · have hQ := qe (P := gqIV Q) h3 hQ
    have hp := hp.2 e h3
    by_cases h5 : e = "java/lang/IllegalArgumentException"
    · subst h5
      have hQ := qp (P := gqIV Q) rfl hQ
      have hp := hp.1 rfl
      refine g_catch2 [] (0, 9, 12, 13) [] rfl (fun z hz => absurd hz List.not_mem_nil) (by decide) (by decide) w_722 w_753 (fun q => ?_)
      refine g_astore_n [(3, .ref q), (0, .ref (gX E + 0)), (1, .int x1), (2, .ref (gX E + 570))] dL_borneByCoins_12 rfl (by decide) rfl ?_
      refine g_lv (lv' := []) [] rfl ?_
      exact w_L_borneByCoins_13  hd     (f_X11_borneByCoins x1 v).2 hp hQ
    have hQ := qn (P := gqIV Q) h5 hQ
    have hp := hp.2 h5
    exact hp.elim
def f_L_borneByCoins  (x1 : Int32) (v : gV) : Int32 × gV := f_L_borneByCoins_0 x1 v
def p_L_borneByCoins  (x1 : Int32) (v : gV) : Prop := p_L_borneByCoins_0 x1 v
theorem c_L_borneByCoins {E : gE} {d : Nat}   (hd : 9 ≤ d) (x1 : Int32) (v : gV) (hp : p_L_borneByCoins x1 v) : CT E m_L_borneByCoins d 1 6 [.ref (gX E + 0), .int x1, .ref (gX E + 570)] (rS v) (Cq (.inl (some (.int ((f_L_borneByCoins x1 v).1)))) (f_L_borneByCoins x1 v).2) := CT.ofH ok_L_borneByCoins rfl (Nat.le_of_ble_eq_true rfl) (w_L_borneByCoins_0  hd x1 v hp ⟨rfl, rfl⟩)
def f_L_cheapestCoverBySets_10   (v : gV) : Int32 × gV := ((0 : Int32), v)
def p_L_cheapestCoverBySets_10   (v : gV) : Prop := True
set_option maxHeartbeats 4000000 in
set_option maxRecDepth 100000 in
theorem w_L_cheapestCoverBySets_10 {E : gE} {d : Nat} {Q : gO → gS → Prop}   (hd : 9 ≤ d)  (v : gV) (hp : p_L_cheapestCoverBySets_10    v) (hQ : gqIV Q (f_L_cheapestCoverBySets_10   v)) : gG E m_L_cheapestCoverBySets d Q 0 0 (rS v) 10 [] [] := by
  refine g_goto 21 dL_cheapestCoverBySets_10 (by decide) ?_
  refine g_iconst dL_cheapestCoverBySets_21 (0 : Int32) (by decide) ?_
  exact g_iret rfl dL_cheapestCoverBySets_22 hQ
def f_L_cheapestCoverBySets_8  (s0 : Int32) (s1 : Int32) (v : gV) : Int32 × gV := f_L_cheapestCoverBySets_10   (vL v 570 s1.toNatClampNeg s0.toInt64)
def p_L_cheapestCoverBySets_8  (s0 : Int32) (s1 : Int32) (v : gV) : Prop := (vp_in s1 1) ∧ (p_L_cheapestCoverBySets_10    (vL v 570 s1.toNatClampNeg s0.toInt64))
set_option maxHeartbeats 4000000 in
set_option maxRecDepth 100000 in
theorem w_L_cheapestCoverBySets_8 {E : gE} {d : Nat} {Q : gO → gS → Prop}   (hd : 9 ≤ d) (s0 : Int32) (s1 : Int32) (v : gV) (hp : p_L_cheapestCoverBySets_8   s0 s1 v) (hQ : gqIV Q (f_L_cheapestCoverBySets_8  s0 s1 v)) : gG E m_L_cheapestCoverBySets d Q 0 0 (rS v) 8 [] [.int s0, .int s1, .ref (gX E + 570)] := by
  refine g_i2l dL_cheapestCoverBySets_8 ?_
  obtain ⟨h4, hp⟩ := hp
  refine r_last (by decide : kd 570 = (3, 1)) (show 570 < 572 by decide) h4 dL_cheapestCoverBySets_9 ?_
  exact w_L_cheapestCoverBySets_10  hd     (vL v 570 s1.toNatClampNeg s0.toInt64) hp hQ
def f_L_cheapestCoverBySets_15   (v : gV) : Int32 × gV := ((1 : Int32), v)
def p_L_cheapestCoverBySets_15   (v : gV) : Prop := True
set_option maxHeartbeats 4000000 in
set_option maxRecDepth 100000 in
theorem w_L_cheapestCoverBySets_15 {E : gE} {d : Nat} {Q : gO → gS → Prop}   (hd : 9 ≤ d)  (v : gV) (hp : p_L_cheapestCoverBySets_15    v) (hQ : gqIV Q (f_L_cheapestCoverBySets_15   v)) : gG E m_L_cheapestCoverBySets d Q 0 0 (rS v) 15 [] [] := by
  refine g_iconst dL_cheapestCoverBySets_15 (1 : Int32) (by decide) ?_
  exact g_iret rfl dL_cheapestCoverBySets_16 hQ
def f_L_cheapestCoverBySets_19   (v : gV) : Int32 × gV := ((2 : Int32), v)
def p_L_cheapestCoverBySets_19   (v : gV) : Prop := True
set_option maxHeartbeats 4000000 in
set_option maxRecDepth 100000 in
theorem w_L_cheapestCoverBySets_19 {E : gE} {d : Nat} {Q : gO → gS → Prop}   (hd : 9 ≤ d)  (v : gV) (hp : p_L_cheapestCoverBySets_19    v) (hQ : gqIV Q (f_L_cheapestCoverBySets_19   v)) : gG E m_L_cheapestCoverBySets d Q 0 0 (rS v) 19 [] [] := by
  refine g_iconst dL_cheapestCoverBySets_19 (2 : Int32) (by decide) ?_
  exact g_iret rfl dL_cheapestCoverBySets_20 hQ
def f_L_cheapestCoverBySets_0  (x1 : Int32) (x2 : Int32) (v : gV) : Int32 × gV := Sum.elim (fun (sr2 : Int32) => f_L_cheapestCoverBySets_8  sr2 (0 : Int32) v) (fun (e : String) => if e = "java/lang/IllegalArgumentException" then (f_L_cheapestCoverBySets_15   v) else (if e = "java/util/NoSuchElementException" then (f_L_cheapestCoverBySets_19   v) else ((0, v)))) (f_X11_cheapestCoverBySets x1 x2 v)
def p_L_cheapestCoverBySets_0  (x1 : Int32) (x2 : Int32) (v : gV) : Prop := (p_X11_cheapestCoverBySets x1 x2 v) ∧ ((∀ (sr2 : Int32), (f_X11_cheapestCoverBySets x1 x2 v) = Sum.inl sr2 → (p_L_cheapestCoverBySets_8   sr2 (0 : Int32) v)) ∧ (∀ (e : String), (f_X11_cheapestCoverBySets x1 x2 v) = Sum.inr e → (((e = "java/lang/IllegalArgumentException") → (p_L_cheapestCoverBySets_15    v)) ∧ (¬ (e = "java/lang/IllegalArgumentException") → (((e = "java/util/NoSuchElementException") → (p_L_cheapestCoverBySets_19    v)) ∧ (¬ (e = "java/util/NoSuchElementException") → (False)))))))
set_option maxHeartbeats 4000000 in
set_option maxRecDepth 100000 in
theorem w_L_cheapestCoverBySets_0 {E : gE} {d : Nat} {Q : gO → gS → Prop}   (hd : 9 ≤ d) (x1 : Int32) (x2 : Int32) (v : gV) (hp : p_L_cheapestCoverBySets_0   x1 x2 v) (hQ : gqIV Q (f_L_cheapestCoverBySets_0  x1 x2 v)) : gG E m_L_cheapestCoverBySets d Q 3 18 (rS v) 0 [(0, .ref (gX E + 0)), (1, .int x1), (2, .int x2), (3, .ref (gX E + 570))] [] := by
  refine g_aload_n 3 dL_cheapestCoverBySets_0 rfl ?_
  refine g_iconst dL_cheapestCoverBySets_1 (0 : Int32) (by decide) ?_
  refine g_aload_n 0 dL_cheapestCoverBySets_2 rfl ?_
  refine g_iload_n 1 dL_cheapestCoverBySets_3 rfl ?_
  refine g_iload_n 2 dL_cheapestCoverBySets_4 rfl ?_
  obtain ⟨h1, hp⟩ := hp
  refine g_callV (rest := [.int ((0 : Int32)), .ref (gX E + 570)]) s_L_135_X11 rfl (c_X11_cheapestCoverBySets (E := E) (d := d - 1)   (by omega) x1 x2 v h1) (by decide : kd 0 = (0, 8)) (show 0 < 572 by decide) rfl rfl (Nat.le_of_ble_eq_true rfl) (by omega) (by decide) (by decide) dL_cheapestCoverBySets_5 (adTI (fun sr2 h3 => ?_)) (axTI (fun e h3 => ?_))
  · have hQ := ql (P := gqIV Q) h3 hQ
    have hp := hp.1 sr2 h3
    refine g_lv (lv' := []) [] rfl ?_
    exact w_L_cheapestCoverBySets_8  hd    sr2 (0 : Int32) v hp hQ
  · have hQ := qe (P := gqIV Q) h3 hQ
    have hp := hp.2 e h3
    by_cases h5 : e = "java/lang/IllegalArgumentException"
    · subst h5
      have hQ := qp (P := gqIV Q) rfl hQ
      have hp := hp.1 rfl
      refine g_catch2 [] (0, 10, 13, 13) [(0, 10, 17, 21)] rfl (fun z hz => absurd hz List.not_mem_nil) (by decide) (by decide) w_722 w_753 (fun q => ?_)
      refine g_astore [(4, .ref q), (0, .ref (gX E + 0)), (1, .int x1), (2, .int x2), (3, .ref (gX E + 570))] dL_cheapestCoverBySets_13 (by decide) rfl ?_
      refine g_lv (lv' := []) [] rfl ?_
      exact w_L_cheapestCoverBySets_15  hd     v hp hQ
    have hQ := qn (P := gqIV Q) h5 hQ
    have hp := hp.2 h5
    by_cases h6 : e = "java/util/NoSuchElementException"
    · subst h6
      have hQ := qp (P := gqIV Q) rfl hQ
      have hp := hp.1 rfl
      refine g_catch2 [(0, 10, 13, 13)] (0, 10, 17, 21) [] rfl (List.forall_mem_cons.mpr ⟨⟨by decide, "java/lang/IllegalArgumentException", w_722, fun s hK => gnc (by decide +kernel) hK⟩, (fun z hz => absurd hz List.not_mem_nil)⟩) (by decide) (by decide) w_860 w_880 (fun q => ?_)
      refine g_astore [(4, .ref q), (0, .ref (gX E + 0)), (1, .int x1), (2, .int x2), (3, .ref (gX E + 570))] dL_cheapestCoverBySets_17 (by decide) rfl ?_
      refine g_lv (lv' := []) [] rfl ?_
      exact w_L_cheapestCoverBySets_19  hd     v hp hQ
    have hQ := qn (P := gqIV Q) h6 hQ
    have hp := hp.2 h6
    exact hp.elim
def f_L_cheapestCoverBySets  (x1 : Int32) (x2 : Int32) (v : gV) : Int32 × gV := f_L_cheapestCoverBySets_0 x1 x2 v
def p_L_cheapestCoverBySets  (x1 : Int32) (x2 : Int32) (v : gV) : Prop := p_L_cheapestCoverBySets_0 x1 x2 v
theorem c_L_cheapestCoverBySets {E : gE} {d : Nat}   (hd : 9 ≤ d) (x1 : Int32) (x2 : Int32) (v : gV) (hp : p_L_cheapestCoverBySets x1 x2 v) : CT E m_L_cheapestCoverBySets d 3 18 [.ref (gX E + 0), .int x1, .int x2, .ref (gX E + 570)] (rS v) (Cq (.inl (some (.int ((f_L_cheapestCoverBySets x1 x2 v).1)))) (f_L_cheapestCoverBySets x1 x2 v).2) := CT.ofH ok_L_cheapestCoverBySets rfl (Nat.le_of_ble_eq_true rfl) (w_L_cheapestCoverBySets_0  hd x1 x2 v hp ⟨rfl, rfl⟩)
def f_X3_prepare_8 (b2 : Nat)  (v : gV) : gV := v
def p_X3_prepare_8 (b2 : Nat)  (v : gV) : Prop := True
set_option maxHeartbeats 4000000 in
set_option maxRecDepth 100000 in
theorem w_X3_prepare_8 {E : gE} {d : Nat} {Q : gO → gS → Prop} (b2 : Nat) (hb2 : isBk b2) (hd : 6 ≤ d)  (v : gV) (hp : p_X3_prepare_8 b2    v) (hQ : gqV Q (f_X3_prepare_8 b2   v)) : gG E m_X3_prepare d Q 0 0 (rS v) 8 [] [] := by
  exact g_vret rfl dX3_prepare_8 hQ
def f_X3_prepare_0 (b2 : Nat)  (v : gV) : gV := f_X3_prepare_8 b2   (f_X1_copyFrom (f_X3_spare  v) b2 v)
def p_X3_prepare_0 (b2 : Nat)  (v : gV) : Prop := (p_X3_spare  v) ∧ ((p_X1_copyFrom (f_X3_spare  v) b2 v) ∧ (p_X3_prepare_8 b2    (f_X1_copyFrom (f_X3_spare  v) b2 v)))
set_option maxHeartbeats 4000000 in
set_option maxRecDepth 100000 in
theorem w_X3_prepare_0 {E : gE} {d : Nat} {Q : gO → gS → Prop} (b2 : Nat) (hb2 : isBk b2) (hd : 6 ≤ d)  (v : gV) (hp : p_X3_prepare_0 b2    v) (hQ : gqV Q (f_X3_prepare_0 b2   v)) : gG E m_X3_prepare d Q 0 0 (rS v) 0 [(0, .ref (gX E + 101)), (1, .ref (gX E + b2))] [] := by
  refine g_aload_n 0 dX3_prepare_0 rfl ?_
  obtain ⟨h1, hp⟩ := hp
  refine g_callV (rest := []) s_X3_31_X3 rfl (c_X3_spare (E := E) (d := d - 1)   (by omega)  v h1) (by decide : kd 101 = (0, 2)) (show 101 < 572 by decide) rfl rfl (Nat.le_of_ble_eq_true rfl) (by omega) (by decide) (by decide) dX3_prepare_1 (adV ?_) axN
  refine g_aload_n 1 dX3_prepare_4 rfl ?_
  obtain ⟨h2, hp⟩ := hp
  refine g_callV (rest := []) s_X3_35_X1 rfl (c_X1_copyFrom (E := E) (d := d - 1) (f_X3_spare  v) b2 (b_X3_spare   v h1) hb2 (by omega)  v h2) (kbz (b_X3_spare   v h1)) (lt_b0 (b_X3_spare   v h1)) rfl rfl (Nat.le_of_ble_eq_true rfl) (by omega) (by decide) (by decide) dX3_prepare_5 (adN ?_) axN
  refine g_lv (lv' := []) [] rfl ?_
  exact w_X3_prepare_8 b2 hb2 hd     (f_X1_copyFrom (f_X3_spare  v) b2 v) hp hQ
def f_X3_prepare (b2 : Nat)  (v : gV) : gV := f_X3_prepare_0 b2  v
def p_X3_prepare (b2 : Nat)  (v : gV) : Prop := p_X3_prepare_0 b2  v
theorem c_X3_prepare {E : gE} {d : Nat} (b2 : Nat) (hb2 : isBk b2) (hd : 6 ≤ d)  (v : gV) (hp : p_X3_prepare b2  v) : CT E m_X3_prepare d 0 0 [.ref (gX E + 101), .ref (gX E + b2)] (rS v) (Cq (.inl none) (f_X3_prepare b2  v)) := CT.of ok_X3_prepare rfl (Nat.le_of_ble_eq_true rfl) (w_X3_prepare_0 b2 hb2 hd  v hp ⟨rfl, rfl⟩)
def f_X3_bringBack_8 (b2 : Nat)  (v : gV) : gV := v
def p_X3_bringBack_8 (b2 : Nat)  (v : gV) : Prop := True
set_option maxHeartbeats 4000000 in
set_option maxRecDepth 100000 in
theorem w_X3_bringBack_8 {E : gE} {d : Nat} {Q : gO → gS → Prop} (b2 : Nat) (hb2 : isBk b2) (hd : 6 ≤ d)  (v : gV) (hp : p_X3_bringBack_8 b2    v) (hQ : gqV Q (f_X3_bringBack_8 b2   v)) : gG E m_X3_bringBack d Q 0 0 (rS v) 8 [] [] := by
  exact g_vret rfl dX3_bringBack_8 hQ
def f_X3_bringBack_0 (b2 : Nat)  (v : gV) : gV := f_X3_bringBack_8 b2   (f_X1_copyFrom b2 (f_X3_spare  v) v)
def p_X3_bringBack_0 (b2 : Nat)  (v : gV) : Prop := (p_X3_spare  v) ∧ ((p_X1_copyFrom b2 (f_X3_spare  v) v) ∧ (p_X3_bringBack_8 b2    (f_X1_copyFrom b2 (f_X3_spare  v) v)))
set_option maxHeartbeats 4000000 in
set_option maxRecDepth 100000 in
theorem w_X3_bringBack_0 {E : gE} {d : Nat} {Q : gO → gS → Prop} (b2 : Nat) (hb2 : isBk b2) (hd : 6 ≤ d)  (v : gV) (hp : p_X3_bringBack_0 b2    v) (hQ : gqV Q (f_X3_bringBack_0 b2   v)) : gG E m_X3_bringBack d Q 0 0 (rS v) 0 [(0, .ref (gX E + 101)), (1, .ref (gX E + b2))] [] := by
  refine g_aload_n 1 dX3_bringBack_0 rfl ?_
  refine g_aload_n 0 dX3_bringBack_1 rfl ?_
  obtain ⟨h1, hp⟩ := hp
  refine g_callV (rest := [.ref (gX E + b2)]) s_X3_31_X3 rfl (c_X3_spare (E := E) (d := d - 1)   (by omega)  v h1) (by decide : kd 101 = (0, 2)) (show 101 < 572 by decide) rfl rfl (Nat.le_of_ble_eq_true rfl) (by omega) (by decide) (by decide) dX3_bringBack_2 (adV ?_) axN
  obtain ⟨h2, hp⟩ := hp
  refine g_callV (rest := []) s_X3_35_X1 rfl (c_X1_copyFrom (E := E) (d := d - 1) b2 (f_X3_spare  v) hb2 (b_X3_spare   v h1) (by omega)  v h2) (kbz hb2) (lt_b0 hb2) rfl rfl (Nat.le_of_ble_eq_true rfl) (by omega) (by decide) (by decide) dX3_bringBack_5 (adN ?_) axN
  refine g_lv (lv' := []) [] rfl ?_
  exact w_X3_bringBack_8 b2 hb2 hd     (f_X1_copyFrom b2 (f_X3_spare  v) v) hp hQ
def f_X3_bringBack (b2 : Nat)  (v : gV) : gV := f_X3_bringBack_0 b2  v
def p_X3_bringBack (b2 : Nat)  (v : gV) : Prop := p_X3_bringBack_0 b2  v
theorem c_X3_bringBack {E : gE} {d : Nat} (b2 : Nat) (hb2 : isBk b2) (hd : 6 ≤ d)  (v : gV) (hp : p_X3_bringBack b2  v) : CT E m_X3_bringBack d 0 0 [.ref (gX E + 101), .ref (gX E + b2)] (rS v) (Cq (.inl none) (f_X3_bringBack b2  v)) := CT.of ok_X3_bringBack rfl (Nat.le_of_ble_eq_true rfl) (w_X3_bringBack_0 b2 hb2 hd  v hp ⟨rfl, rfl⟩)
def f_X3_stepBack_32 (b2 : Nat)  (v : gV) : (Int32 ⊕ String) × gV := (Sum.inl (v.1 101 2), v)
def p_X3_stepBack_32 (b2 : Nat)  (v : gV) : Prop := True
set_option maxHeartbeats 4000000 in
set_option maxRecDepth 100000 in
theorem w_X3_stepBack_32 {E : gE} {d : Nat} {Q : gO → gS → Prop} (b2 : Nat) (hb2 : isBk b2) (hd : 7 ≤ d)  (v : gV) (hp : p_X3_stepBack_32 b2    v) (hQ : gqTIV Q (f_X3_stepBack_32 b2   v)) : gG E m_X3_stepBack d Q 0 0 (rS v) 32 [(0, .ref (gX E + 101))] [] := by
  refine g_aload_n 0 dX3_stepBack_32 rfl ?_
  refine r_get (.int (v.1 101 2)) f_X3_22_X3 rfl (by decide : kd 101 = (0, 2)) (show 101 < 572 by decide) dX3_stepBack_33 (fun _ => rfl) ?_
  exact g_iret rfl dX3_stepBack_36 hQ
def f_X3_stepBack_27 (b2 : Nat)  (v : gV) : (Int32 ⊕ String) × gV := f_X3_stepBack_32 b2   (f_X3_bringBack b2 v)
def p_X3_stepBack_27 (b2 : Nat)  (v : gV) : Prop := (p_X3_bringBack b2 v) ∧ (p_X3_stepBack_32 b2    (f_X3_bringBack b2 v))
set_option maxHeartbeats 4000000 in
set_option maxRecDepth 100000 in
theorem w_X3_stepBack_27 {E : gE} {d : Nat} {Q : gO → gS → Prop} (b2 : Nat) (hb2 : isBk b2) (hd : 7 ≤ d)  (v : gV) (hp : p_X3_stepBack_27 b2    v) (hQ : gqTIV Q (f_X3_stepBack_27 b2   v)) : gG E m_X3_stepBack d Q 0 0 (rS v) 27 [(0, .ref (gX E + 101)), (1, .ref (gX E + b2))] [] := by
  refine g_aload_n 0 dX3_stepBack_27 rfl ?_
  refine g_aload_n 1 dX3_stepBack_28 rfl ?_
  obtain ⟨h2, hp⟩ := hp
  refine g_callV (rest := []) s_X3_46_X3 rfl (c_X3_bringBack (E := E) (d := d - 1) b2 hb2 (by omega)  v h2) (by decide : kd 101 = (0, 2)) (show 101 < 572 by decide) rfl rfl (Nat.le_of_ble_eq_true rfl) (by omega) (by decide) (by decide) dX3_stepBack_29 (adN ?_) axN
  refine g_lv (lv' := [(0, .ref (gX E + 101))]) [0] rfl ?_
  exact w_X3_stepBack_32 b2 hb2 hd     (f_X3_bringBack b2 v) hp hQ
def f_X3_stepBack_0 (b2 : Nat)  (v : gV) : (Int32 ⊕ String) × gV := if (v.1 101 2) = 0 then ((Sum.inr "java/lang/IllegalStateException", v)) else (f_X3_stepBack_27 b2   (vM v 101 2 ((v.1 101 2) - (1 : Int32))))
def p_X3_stepBack_0 (b2 : Nat)  (v : gV) : Prop := (((v.1 101 2) = 0) → (True)) ∧ (¬ ((v.1 101 2) = 0) → (p_X3_stepBack_27 b2    (vM v 101 2 ((v.1 101 2) - (1 : Int32)))))
set_option maxHeartbeats 4000000 in
set_option maxRecDepth 100000 in
theorem w_X3_stepBack_0 {E : gE} {d : Nat} {Q : gO → gS → Prop} (b2 : Nat) (hb2 : isBk b2) (hd : 7 ≤ d)  (v : gV) (hp : p_X3_stepBack_0 b2    v) (hQ : gqTIV Q (f_X3_stepBack_0 b2   v)) : gG E m_X3_stepBack d Q 1 6 (rS v) 0 [(0, .ref (gX E + 101)), (1, .ref (gX E + b2))] [] := by
  refine g_aload_n 0 dX3_stepBack_0 rfl ?_
  refine r_get (.int (v.1 101 2)) f_X3_22_X3 rfl (by decide : kd 101 = (0, 2)) (show 101 < 572 by decide) dX3_stepBack_1 (fun _ => rfl) ?_
  refine g_if_ne 17 dX3_stepBack_4 (by decide) (fun h1 => ?_) (fun h1 => ?_)
  · have hQ := qn (P := gqTIV Q) h1 hQ
    have hp := hp.2 h1
    refine g_aload_n 0 dX3_stepBack_17 rfl ?_
    refine g_dup dX3_stepBack_18 rfl ?_
    refine r_get (.int (v.1 101 2)) f_X3_22_X3 rfl (by decide : kd 101 = (0, 2)) (show 101 < 572 by decide) dX3_stepBack_19 (fun _ => rfl) ?_
    refine g_iconst dX3_stepBack_22 (1 : Int32) (by decide) ?_
    refine g_isub dX3_stepBack_23 ?_
    refine r_put pf_X3_22_X3 rfl (by decide : kd 101 = (0, 2)) (by decide) (by decide) rfl (show 101 < 572 by decide) rfl rfl dX3_stepBack_24 ?_
    refine g_room (k' := 0) (n' := 0) (by decide) (by decide) ?_
    exact w_X3_stepBack_27 b2 hb2 hd     (vM v 101 2 ((v.1 101 2) - (1 : Int32))) hp hQ
  · have hQ := qp (P := gqTIV Q) h1 hQ
    have hp := hp.1 h1
    exact g_throwS rfl t_X3_39_41 rfl rfl rfl (by omega) (by decide) (by decide) (Nat.le_of_ble_eq_true rfl) dX3_stepBack_7 dX3_stepBack_10 dX3_stepBack_11 dX3_stepBack_13 dX3_stepBack_16 hQ
def f_X3_stepBack (b2 : Nat)  (v : gV) : (Int32 ⊕ String) × gV := f_X3_stepBack_0 b2  v
def p_X3_stepBack (b2 : Nat)  (v : gV) : Prop := p_X3_stepBack_0 b2  v
theorem c_X3_stepBack {E : gE} {d : Nat} (b2 : Nat) (hb2 : isBk b2) (hd : 7 ≤ d)  (v : gV) (hp : p_X3_stepBack b2  v) : CT E m_X3_stepBack d 1 6 [.ref (gX E + 101), .ref (gX E + b2)] (rS v) (Cq (gOi (f_X3_stepBack b2  v).1) (f_X3_stepBack b2  v).2) := CT.of ok_X3_stepBack rfl (Nat.le_of_ble_eq_true rfl) (w_X3_stepBack_0 b2 hb2 hd  v hp ⟨rfl, rfl⟩)
def f_X9_valueAt_11 (b : Nat) (KS : Int32 → Int32 → Int32 → gV → Int64) (PKS : Int32 → Int32 → Int32 → gV → Prop) (x1 : Int32) (x3 : Int32) (v : gV) : Int64 := (f_X9_totalOf b x1 (x3 - x1) v).toInt64
def p_X9_valueAt_11 (b : Nat) (KS : Int32 → Int32 → Int32 → gV → Int64) (PKS : Int32 → Int32 → Int32 → gV → Prop) (x1 : Int32) (x3 : Int32) (v : gV) : Prop := (p_X9_totalOf b x1 (x3 - x1) v) ∧ (True)
set_option maxHeartbeats 4000000 in
set_option maxRecDepth 100000 in
theorem w_X9_valueAt_11 {E : gE} {d : Nat} {Q : gO → gS → Prop} (b : Nat) (KS : Int32 → Int32 → Int32 → gV → Int64) (PKS : Int32 → Int32 → Int32 → gV → Prop) (hb : isBk b) (hKS : ∀ (x1 : Int32) (x2 : Int32) (x3 : Int32) (v : gV), PKS x1 x2 x3 v → CT E m_X9_valueAt (d - 1) 0 0 [.ref (gX E + (b + 37)), .int x1, .int x2, .int x3] (rS v) (Cq (.inl (some (.long (KS x1 x2 x3 v)))) v)) (hd : 3 ≤ d) (x1 : Int32) (x3 : Int32) (v : gV) (hp : p_X9_valueAt_11 b KS PKS   x1 x3 v) (hQ : gqJ Q v (f_X9_valueAt_11 b KS PKS  x1 x3 v)) : gG E m_X9_valueAt d Q 0 0 (rS v) 11 [(0, .ref (gX E + (b + 37))), (1, .int x1), (3, .int x3)] [] := by
  refine g_aload_n 0 dX9_valueAt_11 rfl ?_
  refine g_iload_n 1 dX9_valueAt_12 rfl ?_
  refine g_iload_n 2 dX9_valueAt_13 rfl ?_
  refine g_iload_n 1 dX9_valueAt_14 rfl ?_
  refine g_isub dX9_valueAt_15 ?_
  obtain ⟨h2, hp⟩ := hp
  refine g_callV (rest := []) s_X9_20_X9 rfl (c_X9_totalOf (E := E) (d := d - 1) b hb (by omega) x1 (x3 - x1) v h2) (kb_37 hb) (lt_b hb (by decide)) rfl rfl (Nat.le_of_ble_eq_true rfl) (by omega) (by decide) (by decide) dX9_valueAt_16 (adV ?_) axN
  refine g_i2l dX9_valueAt_19 ?_
  exact g_lret rfl dX9_valueAt_20 hQ
def f_X9_valueAt_31 (b : Nat) (KS : Int32 → Int32 → Int32 → gV → Int64) (PKS : Int32 → Int32 → Int32 → gV → Prop) (x2 : Int32) (x3 : Int32) (s0 : Int64) (v : gV) : Int64 := (f_X9_timesFactor b s0 (x2 - (1 : Int32)) x3 v)
def p_X9_valueAt_31 (b : Nat) (KS : Int32 → Int32 → Int32 → gV → Int64) (PKS : Int32 → Int32 → Int32 → gV → Prop) (x2 : Int32) (x3 : Int32) (s0 : Int64) (v : gV) : Prop := (p_X9_timesFactor b s0 (x2 - (1 : Int32)) x3 v) ∧ (True)
set_option maxHeartbeats 4000000 in
set_option maxRecDepth 100000 in
theorem w_X9_valueAt_31 {E : gE} {d : Nat} {Q : gO → gS → Prop} (b : Nat) (KS : Int32 → Int32 → Int32 → gV → Int64) (PKS : Int32 → Int32 → Int32 → gV → Prop) (hb : isBk b) (hKS : ∀ (x1 : Int32) (x2 : Int32) (x3 : Int32) (v : gV), PKS x1 x2 x3 v → CT E m_X9_valueAt (d - 1) 0 0 [.ref (gX E + (b + 37)), .int x1, .int x2, .int x3] (rS v) (Cq (.inl (some (.long (KS x1 x2 x3 v)))) v)) (hd : 3 ≤ d) (x2 : Int32) (x3 : Int32) (s0 : Int64) (v : gV) (hp : p_X9_valueAt_31 b KS PKS   x2 x3 s0 v) (hQ : gqJ Q v (f_X9_valueAt_31 b KS PKS  x2 x3 s0 v)) : gG E m_X9_valueAt d Q 0 0 (rS v) 31 [(2, .int x2), (3, .int x3)] [.long s0, .ref (gX E + (b + 37))] := by
  refine g_iload_n 0 dX9_valueAt_31 rfl ?_
  refine g_iconst dX9_valueAt_32 (1 : Int32) (by decide) ?_
  refine g_isub dX9_valueAt_33 ?_
  refine g_iload_n 1 dX9_valueAt_34 rfl ?_
  obtain ⟨h5, hp⟩ := hp
  refine g_callV (rest := []) s_X9_24_X9 rfl (c_X9_timesFactor (E := E) (d := d - 1) b hb (by omega) s0 (x2 - (1 : Int32)) x3 v h5) (kb_37 hb) (lt_b hb (by decide)) rfl rfl (Nat.le_of_ble_eq_true rfl) (by omega) (by decide) (by decide) dX9_valueAt_35 (adV ?_) axN
  exact g_lret rfl dX9_valueAt_38 hQ
def f_X9_valueAt_0 (b : Nat) (KS : Int32 → Int32 → Int32 → gV → Int64) (PKS : Int32 → Int32 → Int32 → gV → Prop) (x1 : Int32) (x2 : Int32) (x3 : Int32) (v : gV) : Int64 := if x2 ≤ 0 then (f_X9_valueAt_11 b KS PKS  x1 x3 v) else (if (x3 - x1) < x2 then (f_X9_valueAt_31 b KS PKS  x2 x3 (KS x1 (x2 - (1 : Int32)) x3 v) v) else (f_X9_valueAt_11 b KS PKS  x1 x3 v))
def p_X9_valueAt_0 (b : Nat) (KS : Int32 → Int32 → Int32 → gV → Int64) (PKS : Int32 → Int32 → Int32 → gV → Prop) (x1 : Int32) (x2 : Int32) (x3 : Int32) (v : gV) : Prop := ((x2 ≤ 0) → (p_X9_valueAt_11 b KS PKS   x1 x3 v)) ∧ (¬ (x2 ≤ 0) → ((((x3 - x1) < x2) → ((PKS x1 (x2 - (1 : Int32)) x3 v) ∧ (p_X9_valueAt_31 b KS PKS   x2 x3 (KS x1 (x2 - (1 : Int32)) x3 v) v))) ∧ (¬ ((x3 - x1) < x2) → (p_X9_valueAt_11 b KS PKS   x1 x3 v))))
set_option maxHeartbeats 4000000 in
set_option maxRecDepth 100000 in
theorem w_X9_valueAt_0 {E : gE} {d : Nat} {Q : gO → gS → Prop} (b : Nat) (KS : Int32 → Int32 → Int32 → gV → Int64) (PKS : Int32 → Int32 → Int32 → gV → Prop) (hb : isBk b) (hKS : ∀ (x1 : Int32) (x2 : Int32) (x3 : Int32) (v : gV), PKS x1 x2 x3 v → CT E m_X9_valueAt (d - 1) 0 0 [.ref (gX E + (b + 37)), .int x1, .int x2, .int x3] (rS v) (Cq (.inl (some (.long (KS x1 x2 x3 v)))) v)) (hd : 3 ≤ d) (x1 : Int32) (x2 : Int32) (x3 : Int32) (v : gV) (hp : p_X9_valueAt_0 b KS PKS   x1 x2 x3 v) (hQ : gqJ Q v (f_X9_valueAt_0 b KS PKS  x1 x2 x3 v)) : gG E m_X9_valueAt d Q 0 0 (rS v) 0 [(0, .ref (gX E + (b + 37))), (1, .int x1), (2, .int x2), (3, .int x3)] [] := by
  refine g_iload_n 2 dX9_valueAt_0 rfl ?_
  refine g_if_le 11 dX9_valueAt_1 (by decide) (fun h1 => ?_) (fun h1 => ?_)
  · have hQ := qp (P := gqJ Q v) h1 hQ
    have hp := hp.1 h1
    refine g_lv (lv' := [(0, .ref (gX E + (b + 37))), (1, .int x1), (3, .int x3)]) [0, 1, 3] rfl ?_
    exact w_X9_valueAt_11 b KS PKS hb hKS hd    x1 x3 v hp hQ
  · have hQ := qn (P := gqJ Q v) h1 hQ
    have hp := hp.2 h1
    refine g_iload_n 2 dX9_valueAt_4 rfl ?_
    refine g_iload_n 3 dX9_valueAt_5 rfl ?_
    refine g_iload_n 1 dX9_valueAt_6 rfl ?_
    refine g_isub dX9_valueAt_7 ?_
    refine g_icmp_gt 21 dX9_valueAt_8 (by decide) (fun h3 => ?_) (fun h3 => ?_)
    · have hQ := qp (P := gqJ Q v) h3 hQ
      have hp := hp.1 h3
      refine g_aload_n 0 dX9_valueAt_21 rfl ?_
      refine g_aload_n 0 dX9_valueAt_22 rfl ?_
      refine g_iload_n 1 dX9_valueAt_23 rfl ?_
      refine g_iload_n 2 dX9_valueAt_24 rfl ?_
      refine g_iconst dX9_valueAt_25 (1 : Int32) (by decide) ?_
      refine g_isub dX9_valueAt_26 ?_
      refine g_iload_n 3 dX9_valueAt_27 rfl ?_
      obtain ⟨h4, hp⟩ := hp
      refine g_callS (rest := [.ref (gX E + (b + 37))]) s_X9_28 rfl (hKS x1 (x2 - (1 : Int32)) x3 v h4) rfl rfl (Nat.le_of_ble_eq_true rfl) (by omega) (by decide) (by decide) dX9_valueAt_28 (adV ?_) axN
      refine g_lv (lv' := [(2, .int x2), (3, .int x3)]) [2, 3] rfl ?_
      exact w_X9_valueAt_31 b KS PKS hb hKS hd    x2 x3 (KS x1 (x2 - (1 : Int32)) x3 v) v hp hQ
    · have hQ := qn (P := gqJ Q v) h3 hQ
      have hp := hp.2 h3
      refine g_lv (lv' := [(0, .ref (gX E + (b + 37))), (1, .int x1), (3, .int x3)]) [0, 1, 3] rfl ?_
      exact w_X9_valueAt_11 b KS PKS hb hKS hd    x1 x3 v hp hQ
def f_X9_valueAt_R (b : Nat) : Nat → Int32 → Int32 → Int32 → gV → Int64
  | 0, _, _, _, _ => 0
  | n + 1, x1, x2, x3, v => f_X9_valueAt_0 b (f_X9_valueAt_R b n) (fun _ _ _ _ => True) x1 x2 x3 v
def p_X9_valueAt_R (b : Nat) : Nat → Int32 → Int32 → Int32 → gV → Prop
  | 0, _, _, _, _ => False
  | n + 1, x1, x2, x3, v => p_X9_valueAt_0 b (f_X9_valueAt_R b n) (p_X9_valueAt_R b n) x1 x2 x3 v
def f_X9_valueAt (b : Nat) (x1 : Int32) (x2 : Int32) (x3 : Int32) (v : gV) : Int64 := f_X9_valueAt_R b 8 x1 x2 x3 v
def p_X9_valueAt (b : Nat) (x1 : Int32) (x2 : Int32) (x3 : Int32) (v : gV) : Prop := p_X9_valueAt_R b 8 x1 x2 x3 v
theorem c_X9_valueAt_R {E : gE} (b : Nat) (hb : isBk b) : ∀ (n d : Nat), 3 + n ≤ d → ∀ (x1 : Int32) (x2 : Int32) (x3 : Int32) (v : gV), p_X9_valueAt_R b n x1 x2 x3 v → CT E m_X9_valueAt d 0 0 [.ref (gX E + (b + 37)), .int x1, .int x2, .int x3] (rS v) (Cq (.inl (some (.long (f_X9_valueAt_R b n x1 x2 x3 v)))) v) := by
  intro n
  induction n with
  | zero => intro d hd x1 x2 x3 v hp; exact hp.elim
  | succ n ih =>
    intro d hd x1 x2 x3 v hp
    exact CT.of ok_X9_valueAt rfl (Nat.le_of_ble_eq_true rfl) (w_X9_valueAt_0 b (f_X9_valueAt_R b n) (p_X9_valueAt_R b n) hb (fun x1 x2 x3 v hp => ih (d - 1) (by omega) x1 x2 x3 v hp) (by omega) x1 x2 x3 v hp ⟨rfl, rfl⟩)
theorem c_X9_valueAt {E : gE} {d : Nat} (b : Nat) (hb : isBk b) (hd : 11 ≤ d) (x1 : Int32) (x2 : Int32) (x3 : Int32) (v : gV) (hp : p_X9_valueAt b x1 x2 x3 v) : CT E m_X9_valueAt d 0 0 [.ref (gX E + (b + 37)), .int x1, .int x2, .int x3] (rS v) (Cq (.inl (some (.long (f_X9_valueAt b x1 x2 x3 v)))) v) := c_X9_valueAt_R b hb 8 d hd x1 x2 x3 v hp
