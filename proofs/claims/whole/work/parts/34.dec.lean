def f_X1_keepsCapacities_2 (b : Nat) : Nat → Int32 → gV → Int32
  | 0, _, v => 0
  | n + 1, x1, v => if (v.1 (b + 30) 6) ≤ x1 then ((1 : Int32)) else (if ((v.1 (b + 33) x1.toNatClampNeg) + (f_X2_coinsOf b x1 v)) ≤ (v.1 (b + 34) x1.toNatClampNeg) then (f_X1_keepsCapacities_2 b  n (x1 + 1) v) else ((0 : Int32)))
def p_X1_keepsCapacities_2 (b : Nat) : Nat → Int32 → gV → Prop
  | 0, _, _ => False
  | n + 1, x1, v => (((v.1 (b + 30) 6) ≤ x1) → (True)) ∧ (¬ ((v.1 (b + 30) 6) ≤ x1) → ((vp_in x1 4) ∧ ((p_X2_coinsOf b x1 v) ∧ ((vp_in x1 4) ∧ (((((v.1 (b + 33) x1.toNatClampNeg) + (f_X2_coinsOf b x1 v)) ≤ (v.1 (b + 34) x1.toNatClampNeg)) → (p_X1_keepsCapacities_2 b   n (x1 + 1) v)) ∧ (¬ (((v.1 (b + 33) x1.toNatClampNeg) + (f_X2_coinsOf b x1 v)) ≤ (v.1 (b + 34) x1.toNatClampNeg)) → (True)))))))
set_option maxHeartbeats 4000000 in
set_option maxRecDepth 100000 in
theorem w_X1_keepsCapacities_2 {E : gE} {d : Nat} {Q : gO → gS → Prop} (b : Nat) (hb : isBk b) (hd : 1 ≤ d) : ∀ (n : Nat) (x1 : Int32) (v : gV), p_X1_keepsCapacities_2 b   n x1 v → gqI Q v (f_X1_keepsCapacities_2 b  n x1 v) → gG E m_X1_keepsCapacities d Q 0 0 (rS v) 2 [(0, .ref (gX E + b)), (1, .int x1)] [] := by
  intro n
  induction n with
  | zero => intro x1 v hp; exact hp.elim
  | succ n ih =>
    intro x1 v hp hQ
    refine g_iload_n 1 dX1_keepsCapacities_2 rfl ?_
    refine g_aload_n 0 dX1_keepsCapacities_3 rfl ?_
    refine r_get (.ref (gX E + (b + 30))) f_X1_28_X1 rfl (kbz hb) (lt_b0 hb) dX1_keepsCapacities_4 (fun _ => rfl) ?_
    refine r_get (.int (v.1 (b + 30) 6)) f_X1_132_X8 rfl (kb_30 hb) (lt_b hb (by decide)) dX1_keepsCapacities_7 (fun _ => rfl) ?_
    refine g_icmp_ge 51 dX1_keepsCapacities_10 (by decide) (fun h1 => ?_) (fun h1 => ?_)
    · have hQ := qp (P := gqI Q v) h1 hQ
      have hp := hp.1 h1
      refine g_iconst dX1_keepsCapacities_51 (1 : Int32) (by decide) ?_
      exact g_zret rfl rfl dX1_keepsCapacities_52 hQ
    · have hQ := qn (P := gqI Q v) h1 hQ
      have hp := hp.2 h1
      refine g_aload_n 0 dX1_keepsCapacities_13 rfl ?_
      refine r_get (.ref (gX E + (b + 30))) f_X1_28_X1 rfl (kbz hb) (lt_b0 hb) dX1_keepsCapacities_14 (fun _ => rfl) ?_
      refine r_get (.ref (gX E + (b + 33))) f_X1_129_X8 rfl (kb_30 hb) (lt_b hb (by decide)) dX1_keepsCapacities_17 (fun _ => rfl) ?_
      refine g_iload_n 1 dX1_keepsCapacities_20 rfl ?_
      obtain ⟨h2, hp⟩ := hp
      refine g_iald (kb_33 hb) (lt_b hb (by decide)) h2 dX1_keepsCapacities_21 ?_
      refine g_aload_n 0 dX1_keepsCapacities_22 rfl ?_
      refine r_get (.ref (gX E + (b + 10))) f_X1_21_X1 rfl (kbz hb) (lt_b0 hb) dX1_keepsCapacities_23 (fun _ => rfl) ?_
      refine g_iload_n 1 dX1_keepsCapacities_26 rfl ?_
      obtain ⟨h3, hp⟩ := hp
      refine g_callV (rest := [.int (v.1 (b + 33) x1.toNatClampNeg)]) s_X1_136_X2 rfl (c_X2_coinsOf (E := E) (d := d - 1) b hb (by omega) x1 v h3) (kb_10 hb) (lt_b hb (by decide)) rfl rfl (Nat.le_of_ble_eq_true rfl) (by omega) (by decide) (by decide) dX1_keepsCapacities_27 (adV ?_) axN
      refine g_iadd dX1_keepsCapacities_30 ?_
      refine g_aload_n 0 dX1_keepsCapacities_31 rfl ?_
      refine r_get (.ref (gX E + (b + 30))) f_X1_28_X1 rfl (kbz hb) (lt_b0 hb) dX1_keepsCapacities_32 (fun _ => rfl) ?_
      refine r_get (.ref (gX E + (b + 34))) f_X1_222_X8 rfl (kb_30 hb) (lt_b hb (by decide)) dX1_keepsCapacities_35 (fun _ => rfl) ?_
      refine g_iload_n 1 dX1_keepsCapacities_38 rfl ?_
      obtain ⟨h4, hp⟩ := hp
      refine g_iald (kb_34 hb) (lt_b hb (by decide)) h4 dX1_keepsCapacities_39 ?_
      refine g_icmp_le 45 dX1_keepsCapacities_40 (by decide) (fun h5 => ?_) (fun h5 => ?_)
      · have hQ := qp (P := gqI Q v) h5 hQ
        have hp := hp.1 h5
        refine g_iinc 1 (x1 + 1) [(1, .int (x1 + 1)), (0, .ref (gX E + b))] dX1_keepsCapacities_45 rfl rfl (by decide) rfl ?_
        refine g_goto 2 dX1_keepsCapacities_48 (by decide) ?_
        refine g_lv (lv' := [(0, .ref (gX E + b)), (1, .int (x1 + 1))]) [1, 0] rfl ?_
        exact ih (x1 + 1) v hp hQ
      · have hQ := qn (P := gqI Q v) h5 hQ
        have hp := hp.2 h5
        refine g_iconst dX1_keepsCapacities_43 (0 : Int32) (by decide) ?_
        exact g_zret rfl rfl dX1_keepsCapacities_44 hQ
def f_X1_keepsCapacities_0 (b : Nat)  (v : gV) : Int32 := f_X1_keepsCapacities_2 b  5000 (0 : Int32) v
def p_X1_keepsCapacities_0 (b : Nat)  (v : gV) : Prop := p_X1_keepsCapacities_2 b   5000 (0 : Int32) v
set_option maxHeartbeats 4000000 in
set_option maxRecDepth 100000 in
theorem w_X1_keepsCapacities_0 {E : gE} {d : Nat} {Q : gO → gS → Prop} (b : Nat) (hb : isBk b) (hd : 1 ≤ d)  (v : gV) (hp : p_X1_keepsCapacities_0 b    v) (hQ : gqI Q v (f_X1_keepsCapacities_0 b   v)) : gG E m_X1_keepsCapacities d Q 0 0 (rS v) 0 [(0, .ref (gX E + b))] [] := by
  refine g_iconst dX1_keepsCapacities_0 (0 : Int32) (by decide) ?_
  refine g_istore_n [(1, .int ((0 : Int32))), (0, .ref (gX E + b))] dX1_keepsCapacities_1 rfl (by decide) rfl ?_
  refine g_lv (lv' := [(0, .ref (gX E + b)), (1, .int ((0 : Int32)))]) [1, 0] rfl ?_
  exact w_X1_keepsCapacities_2 b hb hd    5000 (0 : Int32) v hp hQ
def f_X1_keepsCapacities (b : Nat)  (v : gV) : Int32 := f_X1_keepsCapacities_0 b  v
def p_X1_keepsCapacities (b : Nat)  (v : gV) : Prop := p_X1_keepsCapacities_0 b  v
theorem c_X1_keepsCapacities {E : gE} {d : Nat} (b : Nat) (hb : isBk b) (hd : 1 ≤ d)  (v : gV) (hp : p_X1_keepsCapacities b  v) : CT E m_X1_keepsCapacities d 0 0 [.ref (gX E + b)] (rS v) (Cq (.inl (some (.int (f_X1_keepsCapacities b  v)))) v) := CT.of ok_X1_keepsCapacities rfl (Nat.le_of_ble_eq_true rfl) (w_X1_keepsCapacities_0 b hb hd  v hp ⟨rfl, rfl⟩)
def f_X2_ownPartAt_0 (b : Nat) (x1 : Int32) (v : gV) : Int32 := (v.1 (b + 14) x1.toNatClampNeg) - (f_X11_sumOfRow (b + 17 + 1 + (x1).toNatClampNeg) 4 (4 : Int32) v)
def p_X2_ownPartAt_0 (b : Nat) (x1 : Int32) (v : gV) : Prop := (vp_in x1 12) ∧ ((vp_in x1 12) ∧ ((p_X11_sumOfRow (b + 17 + 1 + (x1).toNatClampNeg) 4 (4 : Int32) v) ∧ (True)))
set_option maxHeartbeats 4000000 in
set_option maxRecDepth 100000 in
theorem w_X2_ownPartAt_0 {E : gE} {d : Nat} {Q : gO → gS → Prop} (b : Nat) (hb : isBk b) (hd : 1 ≤ d) (x1 : Int32) (v : gV) (hp : p_X2_ownPartAt_0 b   x1 v) (hQ : gqI Q v (f_X2_ownPartAt_0 b  x1 v)) : gG E m_X2_ownPartAt d Q 0 0 (rS v) 0 [(0, .ref (gX E + (b + 10))), (1, .int x1)] [] := by
  refine g_aload_n 0 dX2_ownPartAt_0 rfl ?_
  refine r_get (.ref (gX E + (b + 14))) f_X2_19_X2 rfl (kb_10 hb) (lt_b hb (by decide)) dX2_ownPartAt_1 (fun _ => rfl) ?_
  refine g_iload_n 1 dX2_ownPartAt_4 rfl ?_
  obtain ⟨h1, hp⟩ := hp
  refine g_iald (kb_14 hb) (lt_b hb (by decide)) h1 dX2_ownPartAt_5 ?_
  refine g_aload_n 0 dX2_ownPartAt_6 rfl ?_
  refine r_get (.ref (gX E + (b + 17))) f_X2_30_X2 rfl (kb_10 hb) (lt_b hb (by decide)) dX2_ownPartAt_7 (fun _ => rfl) ?_
  refine g_iload_n 1 dX2_ownPartAt_10 rfl ?_
  obtain ⟨h2, hp⟩ := hp
  refine r_aald (kb_17 hb) (lt_b hb (by decide)) h2 (by decide) dX2_ownPartAt_11 ?_
  refine g_iconst dX2_ownPartAt_12 (4 : Int32) (by decide) ?_
  obtain ⟨h3, hp⟩ := hp
  refine g_callN (rest := [.int (v.1 (b + 14) x1.toNatClampNeg)]) s_X2_58 rfl (c_X11_sumOfRow (E := E) (d := d - 1) (b + 17 + 1 + (x1).toNatClampNeg) 4 (by decide) (kg_17 hb h2) (lg_17 hb h2) (by omega) (4 : Int32) v h3) rfl rfl (Nat.le_of_ble_eq_true rfl) (by omega) (by decide) (by decide) dX2_ownPartAt_13 (adV ?_) axN
  refine g_isub dX2_ownPartAt_16 ?_
  exact g_iret rfl dX2_ownPartAt_17 hQ
def f_X2_ownPartAt (b : Nat) (x1 : Int32) (v : gV) : Int32 := f_X2_ownPartAt_0 b x1 v
def p_X2_ownPartAt (b : Nat) (x1 : Int32) (v : gV) : Prop := p_X2_ownPartAt_0 b x1 v
theorem c_X2_ownPartAt {E : gE} {d : Nat} (b : Nat) (hb : isBk b) (hd : 1 ≤ d) (x1 : Int32) (v : gV) (hp : p_X2_ownPartAt b x1 v) : CT E m_X2_ownPartAt d 0 0 [.ref (gX E + (b + 10)), .int x1] (rS v) (Cq (.inl (some (.int (f_X2_ownPartAt b x1 v)))) v) := CT.of ok_X2_ownPartAt rfl (Nat.le_of_ble_eq_true rfl) (w_X2_ownPartAt_0 b hb hd x1 v hp ⟨rfl, rfl⟩)
def f_X2_recoveredAt_0 (b : Nat) (x1 : Int32) (v : gV) : Int32 := if (1 : Int32) ≤ (v.1 (b + 14) x1.toNatClampNeg) then (((f_X11_sumOfRow (b + 17 + 1 + (x1).toNatClampNeg) 4 (4 : Int32) v) * (v.1 (b + 15) x1.toNatClampNeg)) / (v.1 (b + 14) x1.toNatClampNeg)) else ((0 : Int32))
def p_X2_recoveredAt_0 (b : Nat) (x1 : Int32) (v : gV) : Prop := (vp_in x1 12) ∧ ((((1 : Int32) ≤ (v.1 (b + 14) x1.toNatClampNeg)) → ((vp_in x1 12) ∧ ((p_X11_sumOfRow (b + 17 + 1 + (x1).toNatClampNeg) 4 (4 : Int32) v) ∧ ((vp_in x1 12) ∧ ((vp_in x1 12) ∧ ((¬ (v.1 (b + 14) x1.toNatClampNeg) = 0) ∧ (True))))))) ∧ (¬ ((1 : Int32) ≤ (v.1 (b + 14) x1.toNatClampNeg)) → (True)))
set_option maxHeartbeats 4000000 in
set_option maxRecDepth 100000 in
theorem w_X2_recoveredAt_0 {E : gE} {d : Nat} {Q : gO → gS → Prop} (b : Nat) (hb : isBk b) (hd : 1 ≤ d) (x1 : Int32) (v : gV) (hp : p_X2_recoveredAt_0 b   x1 v) (hQ : gqI Q v (f_X2_recoveredAt_0 b  x1 v)) : gG E m_X2_recoveredAt d Q 0 0 (rS v) 0 [(0, .ref (gX E + (b + 10))), (1, .int x1)] [] := by
  refine g_aload_n 0 dX2_recoveredAt_0 rfl ?_
  refine r_get (.ref (gX E + (b + 14))) f_X2_19_X2 rfl (kb_10 hb) (lt_b hb (by decide)) dX2_recoveredAt_1 (fun _ => rfl) ?_
  refine g_iload_n 1 dX2_recoveredAt_4 rfl ?_
  obtain ⟨h1, hp⟩ := hp
  refine g_iald (kb_14 hb) (lt_b hb (by decide)) h1 dX2_recoveredAt_5 ?_
  refine g_iconst dX2_recoveredAt_6 (1 : Int32) (by decide) ?_
  refine g_icmp_ge 12 dX2_recoveredAt_7 (by decide) (fun h2 => ?_) (fun h2 => ?_)
  · have hQ := qp (P := gqI Q v) h2 hQ
    have hp := hp.1 h2
    refine g_aload_n 0 dX2_recoveredAt_12 rfl ?_
    refine r_get (.ref (gX E + (b + 17))) f_X2_30_X2 rfl (kb_10 hb) (lt_b hb (by decide)) dX2_recoveredAt_13 (fun _ => rfl) ?_
    refine g_iload_n 1 dX2_recoveredAt_16 rfl ?_
    obtain ⟨h3, hp⟩ := hp
    refine r_aald (kb_17 hb) (lt_b hb (by decide)) h3 (by decide) dX2_recoveredAt_17 ?_
    refine g_iconst dX2_recoveredAt_18 (4 : Int32) (by decide) ?_
    obtain ⟨h4, hp⟩ := hp
    refine g_callN (rest := []) s_X2_58 rfl (c_X11_sumOfRow (E := E) (d := d - 1) (b + 17 + 1 + (x1).toNatClampNeg) 4 (by decide) (kg_17 hb h3) (lg_17 hb h3) (by omega) (4 : Int32) v h4) rfl rfl (Nat.le_of_ble_eq_true rfl) (by omega) (by decide) (by decide) dX2_recoveredAt_19 (adV ?_) axN
    refine g_aload_n 0 dX2_recoveredAt_22 rfl ?_
    refine r_get (.ref (gX E + (b + 15))) f_X2_22_X2 rfl (kb_10 hb) (lt_b hb (by decide)) dX2_recoveredAt_23 (fun _ => rfl) ?_
    refine g_iload_n 1 dX2_recoveredAt_26 rfl ?_
    obtain ⟨h5, hp⟩ := hp
    refine g_iald (kb_15 hb) (lt_b hb (by decide)) h5 dX2_recoveredAt_27 ?_
    refine g_imul dX2_recoveredAt_28 ?_
    refine g_aload_n 0 dX2_recoveredAt_29 rfl ?_
    refine r_get (.ref (gX E + (b + 14))) f_X2_19_X2 rfl (kb_10 hb) (lt_b hb (by decide)) dX2_recoveredAt_30 (fun _ => rfl) ?_
    refine g_iload_n 1 dX2_recoveredAt_33 rfl ?_
    obtain ⟨h6, hp⟩ := hp
    refine g_iald (kb_14 hb) (lt_b hb (by decide)) h6 dX2_recoveredAt_34 ?_
    obtain ⟨h7, hp⟩ := hp
    refine g_idiv dX2_recoveredAt_35 h7 ?_
    exact g_iret rfl dX2_recoveredAt_36 hQ
  · have hQ := qn (P := gqI Q v) h2 hQ
    have hp := hp.2 h2
    refine g_iconst dX2_recoveredAt_10 (0 : Int32) (by decide) ?_
    exact g_iret rfl dX2_recoveredAt_11 hQ
def f_X2_recoveredAt (b : Nat) (x1 : Int32) (v : gV) : Int32 := f_X2_recoveredAt_0 b x1 v
def p_X2_recoveredAt (b : Nat) (x1 : Int32) (v : gV) : Prop := p_X2_recoveredAt_0 b x1 v
theorem c_X2_recoveredAt {E : gE} {d : Nat} (b : Nat) (hb : isBk b) (hd : 1 ≤ d) (x1 : Int32) (v : gV) (hp : p_X2_recoveredAt b x1 v) : CT E m_X2_recoveredAt d 0 0 [.ref (gX E + (b + 10)), .int x1] (rS v) (Cq (.inl (some (.int (f_X2_recoveredAt b x1 v)))) v) := CT.of ok_X2_recoveredAt rfl (Nat.le_of_ble_eq_true rfl) (w_X2_recoveredAt_0 b hb hd x1 v hp ⟨rfl, rfl⟩)
def f_X2_forgetTreaty_29 (b : Nat) (K2 : Int32 → Int32 → gV → gV)  (x1 : Int32) (x2 : Int32) (v : gV) : gV := K2 x1 (x2 + 1) v
def p_X2_forgetTreaty_29 (b : Nat) (K2 : Int32 → Int32 → gV → gV)  (PK2 : Int32 → Int32 → gV → Prop)  (x1 : Int32) (x2 : Int32) (v : gV) : Prop := PK2 x1 (x2 + 1) v
set_option maxHeartbeats 4000000 in
set_option maxRecDepth 100000 in
theorem w_X2_forgetTreaty_29 {E : gE} {d : Nat} {Q : gO → gS → Prop} (b : Nat) (hb : isBk b) (hd : 1 ≤ d) (K2 : Int32 → Int32 → gV → gV)  (PK2 : Int32 → Int32 → gV → Prop)  (hK2 : ∀ (x1 : Int32) (x2 : Int32) (v : gV), PK2 x1 x2 v → gqV Q (K2 x1 x2 v) → gG E m_X2_forgetTreaty d Q 0 0 (rS v) 2 [(0, .ref (gX E + (b + 10))), (1, .int x1), (2, .int x2)] [])  (x1 : Int32) (x2 : Int32) (v : gV) (hp : p_X2_forgetTreaty_29 b K2 PK2 x1 x2 v) (hQ : gqV Q (f_X2_forgetTreaty_29 b K2 x1 x2 v)) : gG E m_X2_forgetTreaty d Q 0 0 (rS v) 29 [(0, .ref (gX E + (b + 10))), (1, .int x1), (2, .int x2)] [] := by
  refine g_iinc 2 (x2 + 1) [(2, .int (x2 + 1)), (0, .ref (gX E + (b + 10))), (1, .int x1)] dX2_forgetTreaty_29 rfl rfl (by decide) rfl ?_
  refine g_goto 2 dX2_forgetTreaty_32 (by decide) ?_
  refine g_lv (lv' := [(0, .ref (gX E + (b + 10))), (1, .int x1), (2, .int (x2 + 1))]) [1, 2, 0] rfl ?_
  exact hK2 x1 (x2 + 1) v hp hQ
def f_X2_forgetTreaty_20 (b : Nat) (K2 : Int32 → Int32 → gV → gV)  (x1 : Int32) (x2 : Int32) (v : gV) : gV := f_X2_forgetTreaty_29 b K2 x1 x2 (vM v (b + 17 + 1 + (x2).toNatClampNeg) (3 : Int32).toNatClampNeg (0 : Int32))
def p_X2_forgetTreaty_20 (b : Nat) (K2 : Int32 → Int32 → gV → gV)  (PK2 : Int32 → Int32 → gV → Prop)  (x1 : Int32) (x2 : Int32) (v : gV) : Prop := (vp_in x2 12) ∧ (p_X2_forgetTreaty_29 b K2 PK2 x1 x2 (vM v (b + 17 + 1 + (x2).toNatClampNeg) (3 : Int32).toNatClampNeg (0 : Int32)))
set_option maxHeartbeats 4000000 in
set_option maxRecDepth 100000 in
theorem w_X2_forgetTreaty_20 {E : gE} {d : Nat} {Q : gO → gS → Prop} (b : Nat) (hb : isBk b) (hd : 1 ≤ d) (K2 : Int32 → Int32 → gV → gV)  (PK2 : Int32 → Int32 → gV → Prop)  (hK2 : ∀ (x1 : Int32) (x2 : Int32) (v : gV), PK2 x1 x2 v → gqV Q (K2 x1 x2 v) → gG E m_X2_forgetTreaty d Q 0 0 (rS v) 2 [(0, .ref (gX E + (b + 10))), (1, .int x1), (2, .int x2)] [])  (x1 : Int32) (x2 : Int32) (v : gV) (hp : p_X2_forgetTreaty_20 b K2 PK2 x1 x2 v) (hQ : gqV Q (f_X2_forgetTreaty_20 b K2 x1 x2 v)) : gG E m_X2_forgetTreaty d Q 0 0 (rS v) 20 [(0, .ref (gX E + (b + 10))), (1, .int x1), (2, .int x2)] [] := by
  refine g_aload_n 0 dX2_forgetTreaty_20 rfl ?_
  refine r_get (.ref (gX E + (b + 17))) f_X2_30_X2 rfl (kb_10 hb) (lt_b hb (by decide)) dX2_forgetTreaty_21 (fun _ => rfl) ?_
  refine g_iload_n 2 dX2_forgetTreaty_24 rfl ?_
  obtain ⟨h4, hp⟩ := hp
  refine r_aald (kb_17 hb) (lt_b hb (by decide)) h4 (by decide) dX2_forgetTreaty_25 ?_
  refine g_iconst dX2_forgetTreaty_26 (3 : Int32) (by decide) ?_
  refine g_iconst dX2_forgetTreaty_27 (0 : Int32) (by decide) ?_
  refine r_iast (kg_17 hb h4) (lg_17 hb h4) (show ¬ (_ ∨ _) by decide) dX2_forgetTreaty_28 ?_
  exact w_X2_forgetTreaty_29 b hb hd K2 PK2 hK2 x1 x2 (vM v (b + 17 + 1 + (x2).toNatClampNeg) (3 : Int32).toNatClampNeg (0 : Int32)) hp hQ
def f_X2_forgetTreaty_2 (b : Nat) : Nat → Int32 → Int32 → gV → gV
  | 0, _, _, v => v
  | n + 1, x1, x2, v => if (v.1 (b + 10) 1) ≤ x2 then v else (f_X2_forgetTreaty_20 b (fun x1 x2 v => f_X2_forgetTreaty_2 b  n x1 x2 v) x1 x2 (f_X11_closeGap (b + 17 + 1 + (x2).toNatClampNeg) 4 x1 v))
def p_X2_forgetTreaty_2 (b : Nat) : Nat → Int32 → Int32 → gV → Prop
  | 0, _, _, _ => False
  | n + 1, x1, x2, v => (((v.1 (b + 10) 1) ≤ x2) → (True)) ∧ (¬ ((v.1 (b + 10) 1) ≤ x2) → ((vp_in x2 12) ∧ ((p_X11_closeGap (b + 17 + 1 + (x2).toNatClampNeg) 4 x1 v) ∧ (p_X2_forgetTreaty_20 b (fun x1 x2 v => f_X2_forgetTreaty_2 b  n x1 x2 v) (fun x1 x2 v => p_X2_forgetTreaty_2 b   n x1 x2 v) x1 x2 (f_X11_closeGap (b + 17 + 1 + (x2).toNatClampNeg) 4 x1 v)))))
set_option maxHeartbeats 4000000 in
set_option maxRecDepth 100000 in
theorem w_X2_forgetTreaty_2 {E : gE} {d : Nat} {Q : gO → gS → Prop} (b : Nat) (hb : isBk b) (hd : 1 ≤ d) : ∀ (n : Nat) (x1 : Int32) (x2 : Int32) (v : gV), p_X2_forgetTreaty_2 b   n x1 x2 v → gqV Q (f_X2_forgetTreaty_2 b  n x1 x2 v) → gG E m_X2_forgetTreaty d Q 0 0 (rS v) 2 [(0, .ref (gX E + (b + 10))), (1, .int x1), (2, .int x2)] [] := by
  intro n
  induction n with
  | zero => intro x1 x2 v hp; exact hp.elim
  | succ n ih =>
    intro x1 x2 v hp hQ
    refine g_iload_n 2 dX2_forgetTreaty_2 rfl ?_
    refine g_aload_n 0 dX2_forgetTreaty_3 rfl ?_
    refine r_get (.int (v.1 (b + 10) 1)) f_X2_62_X2 rfl (kb_10 hb) (lt_b hb (by decide)) dX2_forgetTreaty_4 (fun _ => rfl) ?_
    refine g_icmp_ge 35 dX2_forgetTreaty_7 (by decide) (fun h1 => ?_) (fun h1 => ?_)
    · have hQ := qp (P := gqV Q) h1 hQ
      have hp := hp.1 h1
      exact g_vret rfl dX2_forgetTreaty_35 hQ
    · have hQ := qn (P := gqV Q) h1 hQ
      have hp := hp.2 h1
      refine g_aload_n 0 dX2_forgetTreaty_10 rfl ?_
      refine r_get (.ref (gX E + (b + 17))) f_X2_30_X2 rfl (kb_10 hb) (lt_b hb (by decide)) dX2_forgetTreaty_11 (fun _ => rfl) ?_
      refine g_iload_n 2 dX2_forgetTreaty_14 rfl ?_
      obtain ⟨h2, hp⟩ := hp
      refine r_aald (kb_17 hb) (lt_b hb (by decide)) h2 (by decide) dX2_forgetTreaty_15 ?_
      refine g_iload_n 1 dX2_forgetTreaty_16 rfl ?_
      obtain ⟨h3, hp⟩ := hp
      refine g_callN (rest := []) s_X2_55 rfl (c_X11_closeGap (E := E) (d := d - 1) (b + 17 + 1 + (x2).toNatClampNeg) 4 (by decide) (kg_17 hb h2) (lg_17 hb h2) (by omega) x1 v h3) rfl rfl (Nat.le_of_ble_eq_true rfl) (by omega) (by decide) (by decide) dX2_forgetTreaty_17 (adN ?_) axN
      exact w_X2_forgetTreaty_20 b hb hd (fun x1 x2 v => f_X2_forgetTreaty_2 b  n x1 x2 v) (fun x1 x2 v => p_X2_forgetTreaty_2 b   n x1 x2 v) ih x1 x2 (f_X11_closeGap (b + 17 + 1 + (x2).toNatClampNeg) 4 x1 v) hp hQ
def f_X2_forgetTreaty_0 (b : Nat) (x1 : Int32) (v : gV) : gV := f_X2_forgetTreaty_2 b  5000 x1 (0 : Int32) v
def p_X2_forgetTreaty_0 (b : Nat) (x1 : Int32) (v : gV) : Prop := p_X2_forgetTreaty_2 b   5000 x1 (0 : Int32) v
set_option maxHeartbeats 4000000 in
set_option maxRecDepth 100000 in
theorem w_X2_forgetTreaty_0 {E : gE} {d : Nat} {Q : gO → gS → Prop} (b : Nat) (hb : isBk b) (hd : 1 ≤ d) (x1 : Int32) (v : gV) (hp : p_X2_forgetTreaty_0 b   x1 v) (hQ : gqV Q (f_X2_forgetTreaty_0 b  x1 v)) : gG E m_X2_forgetTreaty d Q 0 0 (rS v) 0 [(0, .ref (gX E + (b + 10))), (1, .int x1)] [] := by
  refine g_iconst dX2_forgetTreaty_0 (0 : Int32) (by decide) ?_
  refine g_istore_n [(2, .int ((0 : Int32))), (0, .ref (gX E + (b + 10))), (1, .int x1)] dX2_forgetTreaty_1 rfl (by decide) rfl ?_
  refine g_lv (lv' := [(0, .ref (gX E + (b + 10))), (1, .int x1), (2, .int ((0 : Int32)))]) [1, 2, 0] rfl ?_
  exact w_X2_forgetTreaty_2 b hb hd    5000 x1 (0 : Int32) v hp hQ
def f_X2_forgetTreaty (b : Nat) (x1 : Int32) (v : gV) : gV := f_X2_forgetTreaty_0 b x1 v
def p_X2_forgetTreaty (b : Nat) (x1 : Int32) (v : gV) : Prop := p_X2_forgetTreaty_0 b x1 v
theorem c_X2_forgetTreaty {E : gE} {d : Nat} (b : Nat) (hb : isBk b) (hd : 1 ≤ d) (x1 : Int32) (v : gV) (hp : p_X2_forgetTreaty b x1 v) : CT E m_X2_forgetTreaty d 0 0 [.ref (gX E + (b + 10)), .int x1] (rS v) (Cq (.inl none) (f_X2_forgetTreaty b x1 v)) := CT.of ok_X2_forgetTreaty rfl (Nat.le_of_ble_eq_true rfl) (w_X2_forgetTreaty_0 b hb hd x1 v hp ⟨rfl, rfl⟩)
def f_X4_copyFrom_41 (b : Nat) (b2 : Nat)  (v : gV) : gV := v
def p_X4_copyFrom_41 (b : Nat) (b2 : Nat)  (v : gV) : Prop := True
set_option maxHeartbeats 4000000 in
set_option maxRecDepth 100000 in
theorem w_X4_copyFrom_41 {E : gE} {d : Nat} {Q : gO → gS → Prop} (b : Nat) (b2 : Nat) (hb : isBk b) (hb2 : isBk b2) (hd : 3 ≤ d)  (v : gV) (hp : p_X4_copyFrom_41 b b2    v) (hQ : gqV Q (f_X4_copyFrom_41 b b2   v)) : gG E m_X4_copyFrom d Q 0 0 (rS v) 41 [] [] := by
  exact g_vret rfl dX4_copyFrom_41 hQ
def f_X4_copyFrom_33 (b : Nat) (b2 : Nat)  (v : gV) : gV := f_X4_copyFrom_41 b b2   (vM v (b + 45) 4 (v.1 (b2 + 45) 4))
def p_X4_copyFrom_33 (b : Nat) (b2 : Nat)  (v : gV) : Prop := p_X4_copyFrom_41 b b2    (vM v (b + 45) 4 (v.1 (b2 + 45) 4))
set_option maxHeartbeats 4000000 in
set_option maxRecDepth 100000 in
theorem w_X4_copyFrom_33 {E : gE} {d : Nat} {Q : gO → gS → Prop} (b : Nat) (b2 : Nat) (hb : isBk b) (hb2 : isBk b2) (hd : 3 ≤ d)  (v : gV) (hp : p_X4_copyFrom_33 b b2    v) (hQ : gqV Q (f_X4_copyFrom_33 b b2   v)) : gG E m_X4_copyFrom d Q 0 0 (rS v) 33 [(0, .ref (gX E + (b + 45))), (1, .ref (gX E + (b2 + 45)))] [] := by
  refine g_aload_n 0 dX4_copyFrom_33 rfl ?_
  refine g_aload_n 1 dX4_copyFrom_34 rfl ?_
  refine r_get (.int (v.1 (b2 + 45) 4)) f_X4_28_X4 rfl (kb_45 hb2) (lt_b hb2 (by decide)) dX4_copyFrom_35 (fun _ => rfl) ?_
  refine r_put pf_X4_28_X4 rfl (kb_45 hb) (by decide) (by decide) rfl (lt_b hb (by decide)) rfl rfl dX4_copyFrom_38 ?_
  refine g_lv (lv' := []) [] rfl ?_
  exact w_X4_copyFrom_41 b b2 hb hb2 hd     (vM v (b + 45) 4 (v.1 (b2 + 45) 4)) hp hQ
def f_X4_copyFrom_22 (b : Nat) (b2 : Nat)  (v : gV) : gV := f_X4_copyFrom_33 b b2   (f_X11_copyRow (b2 + 48) 8 (b + 48) 8 v)
def p_X4_copyFrom_22 (b : Nat) (b2 : Nat)  (v : gV) : Prop := (p_X11_copyRow (b2 + 48) 8 (b + 48) 8 v) ∧ (p_X4_copyFrom_33 b b2    (f_X11_copyRow (b2 + 48) 8 (b + 48) 8 v))
set_option maxHeartbeats 4000000 in
set_option maxRecDepth 100000 in
theorem w_X4_copyFrom_22 {E : gE} {d : Nat} {Q : gO → gS → Prop} (b : Nat) (b2 : Nat) (hb : isBk b) (hb2 : isBk b2) (hd : 3 ≤ d)  (v : gV) (hp : p_X4_copyFrom_22 b b2    v) (hQ : gqV Q (f_X4_copyFrom_22 b b2   v)) : gG E m_X4_copyFrom d Q 0 0 (rS v) 22 [(0, .ref (gX E + (b + 45))), (1, .ref (gX E + (b2 + 45)))] [] := by
  refine g_aload_n 1 dX4_copyFrom_22 rfl ?_
  refine r_get (.ref (gX E + (b2 + 48))) f_X4_18_X4 rfl (kb_45 hb2) (lt_b hb2 (by decide)) dX4_copyFrom_23 (fun _ => rfl) ?_
  refine g_aload_n 0 dX4_copyFrom_26 rfl ?_
  refine r_get (.ref (gX E + (b + 48))) f_X4_18_X4 rfl (kb_45 hb) (lt_b hb (by decide)) dX4_copyFrom_27 (fun _ => rfl) ?_
  obtain ⟨h3, hp⟩ := hp
  refine g_callN (rest := []) s_X4_24 rfl (c_X11_copyRow (E := E) (d := d - 1) (b2 + 48) 8 (b + 48) 8 (by decide) (kb_48 hb2) (lt_b hb2 (by decide)) (by decide) (kb_48 hb) (lt_b hb (by decide)) (by omega)  v h3) rfl rfl (Nat.le_of_ble_eq_true rfl) (by omega) (by decide) (by decide) dX4_copyFrom_30 (adN ?_) axN
  exact w_X4_copyFrom_33 b b2 hb hb2 hd     (f_X11_copyRow (b2 + 48) 8 (b + 48) 8 v) hp hQ
def f_X4_copyFrom_11 (b : Nat) (b2 : Nat)  (v : gV) : gV := f_X4_copyFrom_22 b b2   (f_X11_copyRow (b2 + 47) 8 (b + 47) 8 v)
def p_X4_copyFrom_11 (b : Nat) (b2 : Nat)  (v : gV) : Prop := (p_X11_copyRow (b2 + 47) 8 (b + 47) 8 v) ∧ (p_X4_copyFrom_22 b b2    (f_X11_copyRow (b2 + 47) 8 (b + 47) 8 v))
set_option maxHeartbeats 4000000 in
set_option maxRecDepth 100000 in
theorem w_X4_copyFrom_11 {E : gE} {d : Nat} {Q : gO → gS → Prop} (b : Nat) (b2 : Nat) (hb : isBk b) (hb2 : isBk b2) (hd : 3 ≤ d)  (v : gV) (hp : p_X4_copyFrom_11 b b2    v) (hQ : gqV Q (f_X4_copyFrom_11 b b2   v)) : gG E m_X4_copyFrom d Q 0 0 (rS v) 11 [(0, .ref (gX E + (b + 45))), (1, .ref (gX E + (b2 + 45)))] [] := by
  refine g_aload_n 1 dX4_copyFrom_11 rfl ?_
  refine r_get (.ref (gX E + (b2 + 47))) f_X4_15_X4 rfl (kb_45 hb2) (lt_b hb2 (by decide)) dX4_copyFrom_12 (fun _ => rfl) ?_
  refine g_aload_n 0 dX4_copyFrom_15 rfl ?_
  refine r_get (.ref (gX E + (b + 47))) f_X4_15_X4 rfl (kb_45 hb) (lt_b hb (by decide)) dX4_copyFrom_16 (fun _ => rfl) ?_
  obtain ⟨h2, hp⟩ := hp
  refine g_callN (rest := []) s_X4_24 rfl (c_X11_copyRow (E := E) (d := d - 1) (b2 + 47) 8 (b + 47) 8 (by decide) (kb_47 hb2) (lt_b hb2 (by decide)) (by decide) (kb_47 hb) (lt_b hb (by decide)) (by omega)  v h2) rfl rfl (Nat.le_of_ble_eq_true rfl) (by omega) (by decide) (by decide) dX4_copyFrom_19 (adN ?_) axN
  exact w_X4_copyFrom_22 b b2 hb hb2 hd     (f_X11_copyRow (b2 + 47) 8 (b + 47) 8 v) hp hQ
def f_X4_copyFrom_0 (b : Nat) (b2 : Nat)  (v : gV) : gV := f_X4_copyFrom_11 b b2   (f_X11_copyRow (b2 + 46) 8 (b + 46) 8 v)
def p_X4_copyFrom_0 (b : Nat) (b2 : Nat)  (v : gV) : Prop := (p_X11_copyRow (b2 + 46) 8 (b + 46) 8 v) ∧ (p_X4_copyFrom_11 b b2    (f_X11_copyRow (b2 + 46) 8 (b + 46) 8 v))
set_option maxHeartbeats 4000000 in
set_option maxRecDepth 100000 in
theorem w_X4_copyFrom_0 {E : gE} {d : Nat} {Q : gO → gS → Prop} (b : Nat) (b2 : Nat) (hb : isBk b) (hb2 : isBk b2) (hd : 3 ≤ d)  (v : gV) (hp : p_X4_copyFrom_0 b b2    v) (hQ : gqV Q (f_X4_copyFrom_0 b b2   v)) : gG E m_X4_copyFrom d Q 0 0 (rS v) 0 [(0, .ref (gX E + (b + 45))), (1, .ref (gX E + (b2 + 45)))] [] := by
  refine g_aload_n 1 dX4_copyFrom_0 rfl ?_
  refine r_get (.ref (gX E + (b2 + 46))) f_X4_9_X4 rfl (kb_45 hb2) (lt_b hb2 (by decide)) dX4_copyFrom_1 (fun _ => rfl) ?_
  refine g_aload_n 0 dX4_copyFrom_4 rfl ?_
  refine r_get (.ref (gX E + (b + 46))) f_X4_9_X4 rfl (kb_45 hb) (lt_b hb (by decide)) dX4_copyFrom_5 (fun _ => rfl) ?_
  obtain ⟨h1, hp⟩ := hp
  refine g_callN (rest := []) s_X4_24 rfl (c_X11_copyRow (E := E) (d := d - 1) (b2 + 46) 8 (b + 46) 8 (by decide) (kb_46 hb2) (lt_b hb2 (by decide)) (by decide) (kb_46 hb) (lt_b hb (by decide)) (by omega)  v h1) rfl rfl (Nat.le_of_ble_eq_true rfl) (by omega) (by decide) (by decide) dX4_copyFrom_8 (adN ?_) axN
  exact w_X4_copyFrom_11 b b2 hb hb2 hd     (f_X11_copyRow (b2 + 46) 8 (b + 46) 8 v) hp hQ
def f_X4_copyFrom (b : Nat) (b2 : Nat)  (v : gV) : gV := f_X4_copyFrom_0 b b2  v
def p_X4_copyFrom (b : Nat) (b2 : Nat)  (v : gV) : Prop := p_X4_copyFrom_0 b b2  v
theorem c_X4_copyFrom {E : gE} {d : Nat} (b : Nat) (b2 : Nat) (hb : isBk b) (hb2 : isBk b2) (hd : 3 ≤ d)  (v : gV) (hp : p_X4_copyFrom b b2  v) : CT E m_X4_copyFrom d 0 0 [.ref (gX E + (b + 45)), .ref (gX E + (b2 + 45))] (rS v) (Cq (.inl none) (f_X4_copyFrom b b2  v)) := CT.of ok_X4_copyFrom rfl (Nat.le_of_ble_eq_true rfl) (w_X4_copyFrom_0 b b2 hb hb2 hd  v hp ⟨rfl, rfl⟩)
def f_X4_add_68 (b : Nat) (x4 : Int32) (v : gV) : (Int32 ⊕ String) × gV := (Sum.inl x4, v)
def p_X4_add_68 (b : Nat) (x4 : Int32) (v : gV) : Prop := True
set_option maxHeartbeats 4000000 in
set_option maxRecDepth 100000 in
theorem w_X4_add_68 {E : gE} {d : Nat} {Q : gO → gS → Prop} (b : Nat) (hb : isBk b) (hd : 8 ≤ d) (x4 : Int32) (v : gV) (hp : p_X4_add_68 b   x4 v) (hQ : gqTIV Q (f_X4_add_68 b  x4 v)) : gG E m_X4_add d Q 0 0 (rS v) 68 [(4, .int x4)] [] := by
  refine g_iload 0 dX4_add_68 rfl ?_
  exact g_iret rfl dX4_add_70 hQ
def f_X4_add_58 (b : Nat) (x4 : Int32) (v : gV) : (Int32 ⊕ String) × gV := f_X4_add_68 b  x4 (vM v (b + 45) 4 ((v.1 (b + 45) 4) + (1 : Int32)))
def p_X4_add_58 (b : Nat) (x4 : Int32) (v : gV) : Prop := p_X4_add_68 b   x4 (vM v (b + 45) 4 ((v.1 (b + 45) 4) + (1 : Int32)))
set_option maxHeartbeats 4000000 in
set_option maxRecDepth 100000 in
theorem w_X4_add_58 {E : gE} {d : Nat} {Q : gO → gS → Prop} (b : Nat) (hb : isBk b) (hd : 8 ≤ d) (x4 : Int32) (v : gV) (hp : p_X4_add_58 b   x4 v) (hQ : gqTIV Q (f_X4_add_58 b  x4 v)) : gG E m_X4_add d Q 0 0 (rS v) 58 [(0, .ref (gX E + (b + 45))), (4, .int x4)] [] := by
  refine g_aload_n 0 dX4_add_58 rfl ?_
  refine g_dup dX4_add_59 rfl ?_
  refine r_get (.int (v.1 (b + 45) 4)) f_X4_28_X4 rfl (kb_45 hb) (lt_b hb (by decide)) dX4_add_60 (fun _ => rfl) ?_
  refine g_iconst dX4_add_63 (1 : Int32) (by decide) ?_
  refine g_iadd dX4_add_64 ?_
  refine r_put pf_X4_28_X4 rfl (kb_45 hb) (by decide) (by decide) rfl (lt_b hb (by decide)) rfl rfl dX4_add_65 ?_
  refine g_lv (lv' := [(4, .int x4)]) [1] rfl ?_
  exact w_X4_add_68 b hb hd    x4 (vM v (b + 45) 4 ((v.1 (b + 45) 4) + (1 : Int32))) hp hQ
def f_X4_add_50 (b : Nat) (x3 : Int32) (x4 : Int32) (v : gV) : (Int32 ⊕ String) × gV := f_X4_add_58 b  x4 (vM v (b + 48) x4.toNatClampNeg x3)
def p_X4_add_50 (b : Nat) (x3 : Int32) (x4 : Int32) (v : gV) : Prop := (vp_in x4 8) ∧ (p_X4_add_58 b   x4 (vM v (b + 48) x4.toNatClampNeg x3))
set_option maxHeartbeats 4000000 in
set_option maxRecDepth 100000 in
theorem w_X4_add_50 {E : gE} {d : Nat} {Q : gO → gS → Prop} (b : Nat) (hb : isBk b) (hd : 8 ≤ d) (x3 : Int32) (x4 : Int32) (v : gV) (hp : p_X4_add_50 b   x3 x4 v) (hQ : gqTIV Q (f_X4_add_50 b  x3 x4 v)) : gG E m_X4_add d Q 0 0 (rS v) 50 [(0, .ref (gX E + (b + 45))), (3, .int x3), (4, .int x4)] [] := by
  refine g_aload_n 0 dX4_add_50 rfl ?_
  refine r_get (.ref (gX E + (b + 48))) f_X4_18_X4 rfl (kb_45 hb) (lt_b hb (by decide)) dX4_add_51 (fun _ => rfl) ?_
  refine g_iload 2 dX4_add_54 rfl ?_
  refine g_iload_n 1 dX4_add_56 rfl ?_
  obtain ⟨h15, hp⟩ := hp
  refine r_iast (kb_48 hb) (lt_b hb (by decide)) h15 dX4_add_57 ?_
  refine g_lv (lv' := [(0, .ref (gX E + (b + 45))), (4, .int x4)]) [0, 2] rfl ?_
  exact w_X4_add_58 b hb hd    x4 (vM v (b + 48) x4.toNatClampNeg x3) hp hQ
def f_X4_add_42 (b : Nat) (x2 : Int32) (x3 : Int32) (x4 : Int32) (v : gV) : (Int32 ⊕ String) × gV := f_X4_add_50 b  x3 x4 (vM v (b + 47) x4.toNatClampNeg x2)
def p_X4_add_42 (b : Nat) (x2 : Int32) (x3 : Int32) (x4 : Int32) (v : gV) : Prop := (vp_in x4 8) ∧ (p_X4_add_50 b   x3 x4 (vM v (b + 47) x4.toNatClampNeg x2))
set_option maxHeartbeats 4000000 in
set_option maxRecDepth 100000 in
theorem w_X4_add_42 {E : gE} {d : Nat} {Q : gO → gS → Prop} (b : Nat) (hb : isBk b) (hd : 8 ≤ d) (x2 : Int32) (x3 : Int32) (x4 : Int32) (v : gV) (hp : p_X4_add_42 b   x2 x3 x4 v) (hQ : gqTIV Q (f_X4_add_42 b  x2 x3 x4 v)) : gG E m_X4_add d Q 0 0 (rS v) 42 [(0, .ref (gX E + (b + 45))), (2, .int x2), (3, .int x3), (4, .int x4)] [] := by
  refine g_aload_n 0 dX4_add_42 rfl ?_
  refine r_get (.ref (gX E + (b + 47))) f_X4_15_X4 rfl (kb_45 hb) (lt_b hb (by decide)) dX4_add_43 (fun _ => rfl) ?_
  refine g_iload 3 dX4_add_46 rfl ?_
  refine g_iload_n 1 dX4_add_48 rfl ?_
  obtain ⟨h14, hp⟩ := hp
  refine r_iast (kb_47 hb) (lt_b hb (by decide)) h14 dX4_add_49 ?_
  refine g_lv (lv' := [(0, .ref (gX E + (b + 45))), (3, .int x3), (4, .int x4)]) [0, 2, 3] rfl ?_
  exact w_X4_add_50 b hb hd    x3 x4 (vM v (b + 47) x4.toNatClampNeg x2) hp hQ
def f_X4_add_32 (b : Nat) (x1 : Int32) (x2 : Int32) (x3 : Int32) (s0 : Int32) (v : gV) : (Int32 ⊕ String) × gV := f_X4_add_42 b  x2 x3 s0 (vM v (b + 46) s0.toNatClampNeg x1)
def p_X4_add_32 (b : Nat) (x1 : Int32) (x2 : Int32) (x3 : Int32) (s0 : Int32) (v : gV) : Prop := (vp_in s0 8) ∧ (p_X4_add_42 b   x2 x3 s0 (vM v (b + 46) s0.toNatClampNeg x1))
set_option maxHeartbeats 4000000 in
set_option maxRecDepth 100000 in
theorem w_X4_add_32 {E : gE} {d : Nat} {Q : gO → gS → Prop} (b : Nat) (hb : isBk b) (hd : 8 ≤ d) (x1 : Int32) (x2 : Int32) (x3 : Int32) (s0 : Int32) (v : gV) (hp : p_X4_add_32 b   x1 x2 x3 s0 v) (hQ : gqTIV Q (f_X4_add_32 b  x1 x2 x3 s0 v)) : gG E m_X4_add d Q 0 0 (rS v) 32 [(0, .ref (gX E + (b + 45))), (1, .int x1), (2, .int x2), (3, .int x3)] [.int s0] := by
  refine g_istore [(4, .int s0), (0, .ref (gX E + (b + 45))), (1, .int x1), (2, .int x2), (3, .int x3)] dX4_add_32 (by decide) rfl ?_
  refine g_aload_n 1 dX4_add_34 rfl ?_
  refine r_get (.ref (gX E + (b + 46))) f_X4_9_X4 rfl (kb_45 hb) (lt_b hb (by decide)) dX4_add_35 (fun _ => rfl) ?_
  refine g_iload 0 dX4_add_38 rfl ?_
  refine g_iload_n 2 dX4_add_40 rfl ?_
  obtain ⟨h13, hp⟩ := hp
  refine r_iast (kb_46 hb) (lt_b hb (by decide)) h13 dX4_add_41 ?_
  refine g_lv (lv' := [(0, .ref (gX E + (b + 45))), (2, .int x2), (3, .int x3), (4, .int s0)]) [1, 3, 4, 0] rfl ?_
  exact w_X4_add_42 b hb hd    x2 x3 s0 (vM v (b + 46) s0.toNatClampNeg x1) hp hQ
def f_X4_add_22 (b : Nat) (x1 : Int32) (x2 : Int32) (x3 : Int32) (s0 : Int32) (v : gV) : (Int32 ⊕ String) × gV := Sum.elim (fun (sr11 : Int32) => f_X4_add_32 b  x1 x2 x3 sr11 v) (fun (e : String) => (Sum.inr e, v)) (f_X11_freePlace (v.1 (b + 45) 4) (8 : Int32) v)
def p_X4_add_22 (b : Nat) (x1 : Int32) (x2 : Int32) (x3 : Int32) (s0 : Int32) (v : gV) : Prop := (p_X11_freePlace (v.1 (b + 45) 4) (8 : Int32) v) ∧ (∀ (sr11 : Int32), (f_X11_freePlace (v.1 (b + 45) 4) (8 : Int32) v) = Sum.inl sr11 → (p_X4_add_32 b   x1 x2 x3 sr11 v))
set_option maxHeartbeats 4000000 in
set_option maxRecDepth 100000 in
theorem w_X4_add_22 {E : gE} {d : Nat} {Q : gO → gS → Prop} (b : Nat) (hb : isBk b) (hd : 8 ≤ d) (x1 : Int32) (x2 : Int32) (x3 : Int32) (s0 : Int32) (v : gV) (hp : p_X4_add_22 b   x1 x2 x3 s0 v) (hQ : gqTIV Q (f_X4_add_22 b  x1 x2 x3 s0 v)) : gG E m_X4_add d Q 1 6 (rS v) 22 [(0, .ref (gX E + (b + 45))), (1, .int x1), (2, .int x2), (3, .int x3)] [.int s0] := by
  refine g_pop dX4_add_22 rfl ?_
  refine g_aload_n 0 dX4_add_23 rfl ?_
  refine r_get (.int (v.1 (b + 45) 4)) f_X4_28_X4 rfl (kb_45 hb) (lt_b hb (by decide)) dX4_add_24 (fun _ => rfl) ?_
  refine g_bipush dX4_add_27 (8 : Int32) (by decide) ?_
  obtain ⟨h10, hp⟩ := hp
  refine g_callN (rest := []) s_X4_36 rfl (c_X11_freePlace (E := E) (d := d - 1)   (by omega) (v.1 (b + 45) 4) (8 : Int32) v h10) rfl rfl (Nat.le_of_ble_eq_true rfl) (by omega) (by decide) (by decide) dX4_add_29 (adTI (fun sr11 h12 => ?_)) (axTI (fun e h12 => g_outs rfl rfl (qe (P := gqTIV Q) h12 hQ)))
  have hQ := ql (P := gqTIV Q) h12 hQ
  have hp := hp sr11 h12
  exact w_X4_add_32 b hb hd    x1 x2 x3 sr11 v hp hQ
def f_X4_add_14 (b : Nat) (x1 : Int32) (x2 : Int32) (x3 : Int32) (s0 : Int32) (v : gV) : (Int32 ⊕ String) × gV := Sum.elim (fun (sr8 : Int32) => f_X4_add_22 b  x1 x2 x3 sr8 v) (fun (e : String) => (Sum.inr e, v)) (f_X11_checkedNumber x3 (1 : Int32) (50 : Int32) v)
def p_X4_add_14 (b : Nat) (x1 : Int32) (x2 : Int32) (x3 : Int32) (s0 : Int32) (v : gV) : Prop := (p_X11_checkedNumber x3 (1 : Int32) (50 : Int32) v) ∧ (∀ (sr8 : Int32), (f_X11_checkedNumber x3 (1 : Int32) (50 : Int32) v) = Sum.inl sr8 → (p_X4_add_22 b   x1 x2 x3 sr8 v))
set_option maxHeartbeats 4000000 in
set_option maxRecDepth 100000 in
theorem w_X4_add_14 {E : gE} {d : Nat} {Q : gO → gS → Prop} (b : Nat) (hb : isBk b) (hd : 8 ≤ d) (x1 : Int32) (x2 : Int32) (x3 : Int32) (s0 : Int32) (v : gV) (hp : p_X4_add_14 b   x1 x2 x3 s0 v) (hQ : gqTIV Q (f_X4_add_14 b  x1 x2 x3 s0 v)) : gG E m_X4_add d Q 2 12 (rS v) 14 [(0, .ref (gX E + (b + 45))), (1, .int x1), (2, .int x2), (3, .int x3)] [.int s0] := by
  refine g_pop dX4_add_14 rfl ?_
  refine g_iload_n 3 dX4_add_15 rfl ?_
  refine g_iconst dX4_add_16 (1 : Int32) (by decide) ?_
  refine g_bipush dX4_add_17 (50 : Int32) (by decide) ?_
  obtain ⟨h7, hp⟩ := hp
  refine g_callN (rest := []) s_X4_32 rfl (c_X11_checkedNumber (E := E) (d := d - 1)   (by omega) x3 (1 : Int32) (50 : Int32) v h7) rfl rfl (Nat.le_of_ble_eq_true rfl) (by omega) (by decide) (by decide) dX4_add_19 (adTI (fun sr8 h9 => ?_)) (axTI (fun e h9 => g_outs rfl rfl (qe (P := gqTIV Q) h9 hQ)))
  have hQ := ql (P := gqTIV Q) h9 hQ
  have hp := hp sr8 h9
  exact w_X4_add_22 b hb hd    x1 x2 x3 sr8 v hp hQ
def f_X4_add_7 (b : Nat) (x1 : Int32) (x2 : Int32) (x3 : Int32) (s0 : Int32) (v : gV) : (Int32 ⊕ String) × gV := Sum.elim (fun (sr5 : Int32) => f_X4_add_14 b  x1 x2 x3 sr5 v) (fun (e : String) => (Sum.inr e, v)) (f_X11_checkedNumber x1 (0 : Int32) x2 v)
def p_X4_add_7 (b : Nat) (x1 : Int32) (x2 : Int32) (x3 : Int32) (s0 : Int32) (v : gV) : Prop := (p_X11_checkedNumber x1 (0 : Int32) x2 v) ∧ (∀ (sr5 : Int32), (f_X11_checkedNumber x1 (0 : Int32) x2 v) = Sum.inl sr5 → (p_X4_add_14 b   x1 x2 x3 sr5 v))
set_option maxHeartbeats 4000000 in
set_option maxRecDepth 100000 in
theorem w_X4_add_7 {E : gE} {d : Nat} {Q : gO → gS → Prop} (b : Nat) (hb : isBk b) (hd : 8 ≤ d) (x1 : Int32) (x2 : Int32) (x3 : Int32) (s0 : Int32) (v : gV) (hp : p_X4_add_7 b   x1 x2 x3 s0 v) (hQ : gqTIV Q (f_X4_add_7 b  x1 x2 x3 s0 v)) : gG E m_X4_add d Q 3 18 (rS v) 7 [(0, .ref (gX E + (b + 45))), (1, .int x1), (2, .int x2), (3, .int x3)] [.int s0] := by
  refine g_pop dX4_add_7 rfl ?_
  refine g_iload_n 1 dX4_add_8 rfl ?_
  refine g_iconst dX4_add_9 (0 : Int32) (by decide) ?_
  refine g_iload_n 2 dX4_add_10 rfl ?_
  obtain ⟨h4, hp⟩ := hp
  refine g_callN (rest := []) s_X4_32 rfl (c_X11_checkedNumber (E := E) (d := d - 1)   (by omega) x1 (0 : Int32) x2 v h4) rfl rfl (Nat.le_of_ble_eq_true rfl) (by omega) (by decide) (by decide) dX4_add_11 (adTI (fun sr5 h6 => ?_)) (axTI (fun e h6 => g_outs rfl rfl (qe (P := gqTIV Q) h6 hQ)))
  have hQ := ql (P := gqTIV Q) h6 hQ
  have hp := hp sr5 h6
  exact w_X4_add_14 b hb hd    x1 x2 x3 sr5 v hp hQ
def f_X4_add_0 (b : Nat) (x1 : Int32) (x2 : Int32) (x3 : Int32) (v : gV) : (Int32 ⊕ String) × gV := Sum.elim (fun (sr2 : Int32) => f_X4_add_7 b  x1 x2 x3 sr2 v) (fun (e : String) => (Sum.inr e, v)) (f_X11_checkedNumber x2 (0 : Int32) (99 : Int32) v)
def p_X4_add_0 (b : Nat) (x1 : Int32) (x2 : Int32) (x3 : Int32) (v : gV) : Prop := (p_X11_checkedNumber x2 (0 : Int32) (99 : Int32) v) ∧ (∀ (sr2 : Int32), (f_X11_checkedNumber x2 (0 : Int32) (99 : Int32) v) = Sum.inl sr2 → (p_X4_add_7 b   x1 x2 x3 sr2 v))
set_option maxHeartbeats 4000000 in
set_option maxRecDepth 100000 in
theorem w_X4_add_0 {E : gE} {d : Nat} {Q : gO → gS → Prop} (b : Nat) (hb : isBk b) (hd : 8 ≤ d) (x1 : Int32) (x2 : Int32) (x3 : Int32) (v : gV) (hp : p_X4_add_0 b   x1 x2 x3 v) (hQ : gqTIV Q (f_X4_add_0 b  x1 x2 x3 v)) : gG E m_X4_add d Q 4 24 (rS v) 0 [(0, .ref (gX E + (b + 45))), (1, .int x1), (2, .int x2), (3, .int x3)] [] := by
  refine g_iload_n 2 dX4_add_0 rfl ?_
  refine g_iconst dX4_add_1 (0 : Int32) (by decide) ?_
  refine g_bipush dX4_add_2 (99 : Int32) (by decide) ?_
  obtain ⟨h1, hp⟩ := hp
  refine g_callN (rest := []) s_X4_32 rfl (c_X11_checkedNumber (E := E) (d := d - 1)   (by omega) x2 (0 : Int32) (99 : Int32) v h1) rfl rfl (Nat.le_of_ble_eq_true rfl) (by omega) (by decide) (by decide) dX4_add_4 (adTI (fun sr2 h3 => ?_)) (axTI (fun e h3 => g_outs rfl rfl (qe (P := gqTIV Q) h3 hQ)))
  have hQ := ql (P := gqTIV Q) h3 hQ
  have hp := hp sr2 h3
  exact w_X4_add_7 b hb hd    x1 x2 x3 sr2 v hp hQ
def f_X4_add (b : Nat) (x1 : Int32) (x2 : Int32) (x3 : Int32) (v : gV) : (Int32 ⊕ String) × gV := f_X4_add_0 b x1 x2 x3 v
def p_X4_add (b : Nat) (x1 : Int32) (x2 : Int32) (x3 : Int32) (v : gV) : Prop := p_X4_add_0 b x1 x2 x3 v
theorem c_X4_add {E : gE} {d : Nat} (b : Nat) (hb : isBk b) (hd : 8 ≤ d) (x1 : Int32) (x2 : Int32) (x3 : Int32) (v : gV) (hp : p_X4_add b x1 x2 x3 v) : CT E m_X4_add d 4 24 [.ref (gX E + (b + 45)), .int x1, .int x2, .int x3] (rS v) (Cq (gOi (f_X4_add b x1 x2 x3 v).1) (f_X4_add b x1 x2 x3 v).2) := CT.of ok_X4_add rfl (Nat.le_of_ble_eq_true rfl) (w_X4_add_0 b hb hd x1 x2 x3 v hp ⟨rfl, rfl⟩)
def f_X4_remove_48 (b : Nat) (x2 : Int32) (v : gV) : (Int32 ⊕ String) × gV := (Sum.inl x2, v)
def p_X4_remove_48 (b : Nat) (x2 : Int32) (v : gV) : Prop := True
set_option maxHeartbeats 4000000 in
set_option maxRecDepth 100000 in
theorem w_X4_remove_48 {E : gE} {d : Nat} {Q : gO → gS → Prop} (b : Nat) (hb : isBk b) (hd : 8 ≤ d) (x2 : Int32) (v : gV) (hp : p_X4_remove_48 b   x2 v) (hQ : gqTIV Q (f_X4_remove_48 b  x2 v)) : gG E m_X4_remove d Q 0 0 (rS v) 48 [(2, .int x2)] [] := by
  refine g_iload_n 0 dX4_remove_48 rfl ?_
  exact g_iret rfl dX4_remove_49 hQ
def f_X4_remove_38 (b : Nat) (x2 : Int32) (v : gV) : (Int32 ⊕ String) × gV := f_X4_remove_48 b  x2 (vM v (b + 45) 4 ((v.1 (b + 45) 4) - (1 : Int32)))
def p_X4_remove_38 (b : Nat) (x2 : Int32) (v : gV) : Prop := p_X4_remove_48 b   x2 (vM v (b + 45) 4 ((v.1 (b + 45) 4) - (1 : Int32)))
set_option maxHeartbeats 4000000 in
set_option maxRecDepth 100000 in
theorem w_X4_remove_38 {E : gE} {d : Nat} {Q : gO → gS → Prop} (b : Nat) (hb : isBk b) (hd : 8 ≤ d) (x2 : Int32) (v : gV) (hp : p_X4_remove_38 b   x2 v) (hQ : gqTIV Q (f_X4_remove_38 b  x2 v)) : gG E m_X4_remove d Q 0 0 (rS v) 38 [(0, .ref (gX E + (b + 45))), (2, .int x2)] [] := by
  refine g_aload_n 0 dX4_remove_38 rfl ?_
  refine g_dup dX4_remove_39 rfl ?_
  refine r_get (.int (v.1 (b + 45) 4)) f_X4_28_X4 rfl (kb_45 hb) (lt_b hb (by decide)) dX4_remove_40 (fun _ => rfl) ?_
  refine g_iconst dX4_remove_43 (1 : Int32) (by decide) ?_
  refine g_isub dX4_remove_44 ?_
  refine r_put pf_X4_28_X4 rfl (kb_45 hb) (by decide) (by decide) rfl (lt_b hb (by decide)) rfl rfl dX4_remove_45 ?_
  refine g_lv (lv' := [(2, .int x2)]) [1] rfl ?_
  exact w_X4_remove_48 b hb hd    x2 (vM v (b + 45) 4 ((v.1 (b + 45) 4) - (1 : Int32))) hp hQ
def f_X4_remove_30 (b : Nat) (x1 : Int32) (x2 : Int32) (v : gV) : (Int32 ⊕ String) × gV := f_X4_remove_38 b  x2 (f_X11_closeGap (b + 48) 8 x1 v)
def p_X4_remove_30 (b : Nat) (x1 : Int32) (x2 : Int32) (v : gV) : Prop := (p_X11_closeGap (b + 48) 8 x1 v) ∧ (p_X4_remove_38 b   x2 (f_X11_closeGap (b + 48) 8 x1 v))
set_option maxHeartbeats 4000000 in
set_option maxRecDepth 100000 in
theorem w_X4_remove_30 {E : gE} {d : Nat} {Q : gO → gS → Prop} (b : Nat) (hb : isBk b) (hd : 8 ≤ d) (x1 : Int32) (x2 : Int32) (v : gV) (hp : p_X4_remove_30 b   x1 x2 v) (hQ : gqTIV Q (f_X4_remove_30 b  x1 x2 v)) : gG E m_X4_remove d Q 0 0 (rS v) 30 [(0, .ref (gX E + (b + 45))), (1, .int x1), (2, .int x2)] [] := by
  refine g_aload_n 0 dX4_remove_30 rfl ?_
  refine r_get (.ref (gX E + (b + 48))) f_X4_18_X4 rfl (kb_45 hb) (lt_b hb (by decide)) dX4_remove_31 (fun _ => rfl) ?_
  refine g_iload_n 1 dX4_remove_34 rfl ?_
  obtain ⟨h7, hp⟩ := hp
  refine g_callN (rest := []) s_X4_43 rfl (c_X11_closeGap (E := E) (d := d - 1) (b + 48) 8 (by decide) (kb_48 hb) (lt_b hb (by decide)) (by omega) x1 v h7) rfl rfl (Nat.le_of_ble_eq_true rfl) (by omega) (by decide) (by decide) dX4_remove_35 (adN ?_) axN
  refine g_lv (lv' := [(0, .ref (gX E + (b + 45))), (2, .int x2)]) [0, 2] rfl ?_
  exact w_X4_remove_38 b hb hd    x2 (f_X11_closeGap (b + 48) 8 x1 v) hp hQ
def f_X4_remove_22 (b : Nat) (x1 : Int32) (x2 : Int32) (v : gV) : (Int32 ⊕ String) × gV := f_X4_remove_30 b  x1 x2 (f_X11_closeGap (b + 47) 8 x1 v)
def p_X4_remove_22 (b : Nat) (x1 : Int32) (x2 : Int32) (v : gV) : Prop := (p_X11_closeGap (b + 47) 8 x1 v) ∧ (p_X4_remove_30 b   x1 x2 (f_X11_closeGap (b + 47) 8 x1 v))
set_option maxHeartbeats 4000000 in
set_option maxRecDepth 100000 in
theorem w_X4_remove_22 {E : gE} {d : Nat} {Q : gO → gS → Prop} (b : Nat) (hb : isBk b) (hd : 8 ≤ d) (x1 : Int32) (x2 : Int32) (v : gV) (hp : p_X4_remove_22 b   x1 x2 v) (hQ : gqTIV Q (f_X4_remove_22 b  x1 x2 v)) : gG E m_X4_remove d Q 0 0 (rS v) 22 [(0, .ref (gX E + (b + 45))), (1, .int x1), (2, .int x2)] [] := by
  refine g_aload_n 0 dX4_remove_22 rfl ?_
  refine r_get (.ref (gX E + (b + 47))) f_X4_15_X4 rfl (kb_45 hb) (lt_b hb (by decide)) dX4_remove_23 (fun _ => rfl) ?_
  refine g_iload_n 1 dX4_remove_26 rfl ?_
  obtain ⟨h6, hp⟩ := hp
  refine g_callN (rest := []) s_X4_43 rfl (c_X11_closeGap (E := E) (d := d - 1) (b + 47) 8 (by decide) (kb_47 hb) (lt_b hb (by decide)) (by omega) x1 v h6) rfl rfl (Nat.le_of_ble_eq_true rfl) (by omega) (by decide) (by decide) dX4_remove_27 (adN ?_) axN
  exact w_X4_remove_30 b hb hd    x1 x2 (f_X11_closeGap (b + 47) 8 x1 v) hp hQ
def f_X4_remove_12 (b : Nat) (x1 : Int32) (s0 : Int32) (v : gV) : (Int32 ⊕ String) × gV := f_X4_remove_22 b  x1 (v.1 (b + 48) s0.toNatClampNeg) (f_X11_closeGap (b + 46) 8 x1 v)
def p_X4_remove_12 (b : Nat) (x1 : Int32) (s0 : Int32) (v : gV) : Prop := (vp_in s0 8) ∧ ((p_X11_closeGap (b + 46) 8 x1 v) ∧ (p_X4_remove_22 b   x1 (v.1 (b + 48) s0.toNatClampNeg) (f_X11_closeGap (b + 46) 8 x1 v)))
set_option maxHeartbeats 4000000 in
set_option maxRecDepth 100000 in
theorem w_X4_remove_12 {E : gE} {d : Nat} {Q : gO → gS → Prop} (b : Nat) (hb : isBk b) (hd : 8 ≤ d) (x1 : Int32) (s0 : Int32) (v : gV) (hp : p_X4_remove_12 b   x1 s0 v) (hQ : gqTIV Q (f_X4_remove_12 b  x1 s0 v)) : gG E m_X4_remove d Q 0 0 (rS v) 12 [(0, .ref (gX E + (b + 45))), (1, .int x1)] [.int s0, .ref (gX E + (b + 48))] := by
  obtain ⟨h4, hp⟩ := hp
  refine g_iald (kb_48 hb) (lt_b hb (by decide)) h4 dX4_remove_12 ?_
  refine g_istore_n [(2, .int (v.1 (b + 48) s0.toNatClampNeg)), (0, .ref (gX E + (b + 45))), (1, .int x1)] dX4_remove_13 rfl (by decide) rfl ?_
  refine g_aload_n 1 dX4_remove_14 rfl ?_
  refine r_get (.ref (gX E + (b + 46))) f_X4_9_X4 rfl (kb_45 hb) (lt_b hb (by decide)) dX4_remove_15 (fun _ => rfl) ?_
  refine g_iload_n 2 dX4_remove_18 rfl ?_
  obtain ⟨h5, hp⟩ := hp
  refine g_callN (rest := []) s_X4_43 rfl (c_X11_closeGap (E := E) (d := d - 1) (b + 46) 8 (by decide) (kb_46 hb) (lt_b hb (by decide)) (by omega) x1 v h5) rfl rfl (Nat.le_of_ble_eq_true rfl) (by omega) (by decide) (by decide) dX4_remove_19 (adN ?_) axN
  refine g_lv (lv' := [(0, .ref (gX E + (b + 45))), (1, .int x1), (2, .int (v.1 (b + 48) s0.toNatClampNeg))]) [1, 2, 0] rfl ?_
  exact w_X4_remove_22 b hb hd    x1 (v.1 (b + 48) s0.toNatClampNeg) (f_X11_closeGap (b + 46) 8 x1 v) hp hQ
def f_X4_remove_0 (b : Nat) (x1 : Int32) (v : gV) : (Int32 ⊕ String) × gV := Sum.elim (fun (sr2 : Int32) => f_X4_remove_12 b  x1 sr2 v) (fun (e : String) => (Sum.inr e, v)) (f_X11_checkedIndex x1 (v.1 (b + 45) 4) v)
def p_X4_remove_0 (b : Nat) (x1 : Int32) (v : gV) : Prop := (p_X11_checkedIndex x1 (v.1 (b + 45) 4) v) ∧ (∀ (sr2 : Int32), (f_X11_checkedIndex x1 (v.1 (b + 45) 4) v) = Sum.inl sr2 → (p_X4_remove_12 b   x1 sr2 v))
set_option maxHeartbeats 4000000 in
set_option maxRecDepth 100000 in
theorem w_X4_remove_0 {E : gE} {d : Nat} {Q : gO → gS → Prop} (b : Nat) (hb : isBk b) (hd : 8 ≤ d) (x1 : Int32) (v : gV) (hp : p_X4_remove_0 b   x1 v) (hQ : gqTIV Q (f_X4_remove_0 b  x1 v)) : gG E m_X4_remove d Q 1 6 (rS v) 0 [(0, .ref (gX E + (b + 45))), (1, .int x1)] [] := by
  refine g_aload_n 0 dX4_remove_0 rfl ?_
  refine r_get (.ref (gX E + (b + 48))) f_X4_18_X4 rfl (kb_45 hb) (lt_b hb (by decide)) dX4_remove_1 (fun _ => rfl) ?_
  refine g_iload_n 1 dX4_remove_4 rfl ?_
  refine g_aload_n 0 dX4_remove_5 rfl ?_
  refine r_get (.int (v.1 (b + 45) 4)) f_X4_28_X4 rfl (kb_45 hb) (lt_b hb (by decide)) dX4_remove_6 (fun _ => rfl) ?_
  obtain ⟨h1, hp⟩ := hp
  refine g_callN (rest := [.ref (gX E + (b + 48))]) s_X4_40 rfl (c_X11_checkedIndex (E := E) (d := d - 1)   (by omega) x1 (v.1 (b + 45) 4) v h1) rfl rfl (Nat.le_of_ble_eq_true rfl) (by omega) (by decide) (by decide) dX4_remove_9 (adTI (fun sr2 h3 => ?_)) (axTI (fun e h3 => g_outs rfl rfl (qe (P := gqTIV Q) h3 hQ)))
  have hQ := ql (P := gqTIV Q) h3 hQ
  have hp := hp sr2 h3
  exact w_X4_remove_12 b hb hd    x1 sr2 v hp hQ
def f_X4_remove (b : Nat) (x1 : Int32) (v : gV) : (Int32 ⊕ String) × gV := f_X4_remove_0 b x1 v
def p_X4_remove (b : Nat) (x1 : Int32) (v : gV) : Prop := p_X4_remove_0 b x1 v
theorem c_X4_remove {E : gE} {d : Nat} (b : Nat) (hb : isBk b) (hd : 8 ≤ d) (x1 : Int32) (v : gV) (hp : p_X4_remove b x1 v) : CT E m_X4_remove d 1 6 [.ref (gX E + (b + 45)), .int x1] (rS v) (Cq (gOi (f_X4_remove b x1 v).1) (f_X4_remove b x1 v).2) := CT.of ok_X4_remove rfl (Nat.le_of_ble_eq_true rfl) (w_X4_remove_0 b hb hd x1 v hp ⟨rfl, rfl⟩)
def f_X4_cheapestByDays_19 (b : Nat) (K2 : Int32 → Int32 → Int32 → gV → Int32 × gV)  (x1 : Int32) (x2 : Int32) (x3 : Int32) (v : gV) : Int32 × gV := K2 x1 x2 (x3 + 1) v
def p_X4_cheapestByDays_19 (b : Nat) (K2 : Int32 → Int32 → Int32 → gV → Int32 × gV)  (PK2 : Int32 → Int32 → Int32 → gV → Prop)  (x1 : Int32) (x2 : Int32) (x3 : Int32) (v : gV) : Prop := PK2 x1 x2 (x3 + 1) v
set_option maxHeartbeats 4000000 in
set_option maxRecDepth 100000 in
theorem w_X4_cheapestByDays_19 {E : gE} {d : Nat} {Q : gO → gS → Prop} (b : Nat) (hb : isBk b) (hd : 2 ≤ d) (K2 : Int32 → Int32 → Int32 → gV → Int32 × gV)  (PK2 : Int32 → Int32 → Int32 → gV → Prop)  (hK2 : ∀ (x1 : Int32) (x2 : Int32) (x3 : Int32) (v : gV), PK2 x1 x2 x3 v → gqIV Q (K2 x1 x2 x3 v) → gG E m_X4_cheapestByDays d Q 0 0 (rS v) 2 [(0, .ref (gX E + (b + 45))), (1, .int x1), (2, .int x2), (3, .int x3)] [])  (x1 : Int32) (x2 : Int32) (x3 : Int32) (v : gV) (hp : p_X4_cheapestByDays_19 b K2 PK2 x1 x2 x3 v) (hQ : gqIV Q (f_X4_cheapestByDays_19 b K2 x1 x2 x3 v)) : gG E m_X4_cheapestByDays d Q 0 0 (rS v) 19 [(0, .ref (gX E + (b + 45))), (1, .int x1), (2, .int x2), (3, .int x3)] [] := by
  refine g_iinc 3 (x3 + 1) [(3, .int (x3 + 1)), (0, .ref (gX E + (b + 45))), (1, .int x1), (2, .int x2)] dX4_cheapestByDays_19 rfl rfl (by decide) rfl ?_
  refine g_goto 2 dX4_cheapestByDays_22 (by decide) ?_
  refine g_lv (lv' := [(0, .ref (gX E + (b + 45))), (1, .int x1), (2, .int x2), (3, .int (x3 + 1))]) [1, 2, 3, 0] rfl ?_
  exact hK2 x1 x2 (x3 + 1) v hp hQ
def f_X4_cheapestByDays_2 (b : Nat) : Nat → Int32 → Int32 → Int32 → gV → Int32 × gV
  | 0, _, _, _, v => (0, v)
  | n + 1, x1, x2, x3, v => if x2 < x3 then ((v.1 (b + 49) x2.toNatClampNeg, v)) else (f_X4_cheapestByDays_19 b (fun x1 x2 x3 v => f_X4_cheapestByDays_2 b  n x1 x2 x3 v) x1 x2 x3 (vM v (b + 49) x3.toNatClampNeg (f_X4_priceUntil b x1 x3 v)))
def p_X4_cheapestByDays_2 (b : Nat) : Nat → Int32 → Int32 → Int32 → gV → Prop
  | 0, _, _, _, _ => False
  | n + 1, x1, x2, x3, v => ((x2 < x3) → ((vp_in x2 100) ∧ (True))) ∧ (¬ (x2 < x3) → ((p_X4_priceUntil b x1 x3 v) ∧ ((vp_in x3 100) ∧ (p_X4_cheapestByDays_19 b (fun x1 x2 x3 v => f_X4_cheapestByDays_2 b  n x1 x2 x3 v) (fun x1 x2 x3 v => p_X4_cheapestByDays_2 b   n x1 x2 x3 v) x1 x2 x3 (vM v (b + 49) x3.toNatClampNeg (f_X4_priceUntil b x1 x3 v))))))
set_option maxHeartbeats 4000000 in
set_option maxRecDepth 100000 in
theorem w_X4_cheapestByDays_2 {E : gE} {d : Nat} {Q : gO → gS → Prop} (b : Nat) (hb : isBk b) (hd : 2 ≤ d) : ∀ (n : Nat) (x1 : Int32) (x2 : Int32) (x3 : Int32) (v : gV), p_X4_cheapestByDays_2 b   n x1 x2 x3 v → gqIV Q (f_X4_cheapestByDays_2 b  n x1 x2 x3 v) → gG E m_X4_cheapestByDays d Q 0 0 (rS v) 2 [(0, .ref (gX E + (b + 45))), (1, .int x1), (2, .int x2), (3, .int x3)] [] := by
  intro n
  induction n with
  | zero => intro x1 x2 x3 v hp; exact hp.elim
  | succ n ih =>
    intro x1 x2 x3 v hp hQ
    refine g_iload_n 3 dX4_cheapestByDays_2 rfl ?_
    refine g_iload_n 2 dX4_cheapestByDays_3 rfl ?_
    refine g_icmp_gt 25 dX4_cheapestByDays_4 (by decide) (fun h1 => ?_) (fun h1 => ?_)
    · have hQ := qp (P := gqIV Q) h1 hQ
      have hp := hp.1 h1
      refine g_aload_n 0 dX4_cheapestByDays_25 rfl ?_
      refine r_get (.ref (gX E + (b + 49))) f_X4_21_X4 rfl (kb_45 hb) (lt_b hb (by decide)) dX4_cheapestByDays_26 (fun _ => rfl) ?_
      refine g_iload_n 2 dX4_cheapestByDays_29 rfl ?_
      obtain ⟨h2, hp⟩ := hp
      refine g_iald (kb_49 hb) (lt_b hb (by decide)) h2 dX4_cheapestByDays_30 ?_
      exact g_iret rfl dX4_cheapestByDays_31 hQ
    · have hQ := qn (P := gqIV Q) h1 hQ
      have hp := hp.2 h1
      refine g_aload_n 0 dX4_cheapestByDays_7 rfl ?_
      refine r_get (.ref (gX E + (b + 49))) f_X4_21_X4 rfl (kb_45 hb) (lt_b hb (by decide)) dX4_cheapestByDays_8 (fun _ => rfl) ?_
      refine g_iload_n 3 dX4_cheapestByDays_11 rfl ?_
      refine g_aload_n 0 dX4_cheapestByDays_12 rfl ?_
      refine g_iload_n 1 dX4_cheapestByDays_13 rfl ?_
      refine g_iload_n 3 dX4_cheapestByDays_14 rfl ?_
      obtain ⟨h3, hp⟩ := hp
      refine g_callV (rest := [.int x3, .ref (gX E + (b + 49))]) s_X4_47_X4 rfl (c_X4_priceUntil (E := E) (d := d - 1) b hb (by omega) x1 x3 v h3) (kb_45 hb) (lt_b hb (by decide)) rfl rfl (Nat.le_of_ble_eq_true rfl) (by omega) (by decide) (by decide) dX4_cheapestByDays_15 (adV ?_) axN
      obtain ⟨h4, hp⟩ := hp
      refine r_iast (kb_49 hb) (lt_b hb (by decide)) h4 dX4_cheapestByDays_18 ?_
      exact w_X4_cheapestByDays_19 b hb hd (fun x1 x2 x3 v => f_X4_cheapestByDays_2 b  n x1 x2 x3 v) (fun x1 x2 x3 v => p_X4_cheapestByDays_2 b   n x1 x2 x3 v) ih x1 x2 x3 (vM v (b + 49) x3.toNatClampNeg (f_X4_priceUntil b x1 x3 v)) hp hQ
def f_X4_cheapestByDays_0 (b : Nat) (x1 : Int32) (x2 : Int32) (v : gV) : Int32 × gV := f_X4_cheapestByDays_2 b  5000 x1 x2 x1 v
def p_X4_cheapestByDays_0 (b : Nat) (x1 : Int32) (x2 : Int32) (v : gV) : Prop := p_X4_cheapestByDays_2 b   5000 x1 x2 x1 v
set_option maxHeartbeats 4000000 in
set_option maxRecDepth 100000 in
theorem w_X4_cheapestByDays_0 {E : gE} {d : Nat} {Q : gO → gS → Prop} (b : Nat) (hb : isBk b) (hd : 2 ≤ d) (x1 : Int32) (x2 : Int32) (v : gV) (hp : p_X4_cheapestByDays_0 b   x1 x2 v) (hQ : gqIV Q (f_X4_cheapestByDays_0 b  x1 x2 v)) : gG E m_X4_cheapestByDays d Q 0 0 (rS v) 0 [(0, .ref (gX E + (b + 45))), (1, .int x1), (2, .int x2)] [] := by
  refine g_iload_n 1 dX4_cheapestByDays_0 rfl ?_
  refine g_istore_n [(3, .int x1), (0, .ref (gX E + (b + 45))), (1, .int x1), (2, .int x2)] dX4_cheapestByDays_1 rfl (by decide) rfl ?_
  refine g_lv (lv' := [(0, .ref (gX E + (b + 45))), (1, .int x1), (2, .int x2), (3, .int x1)]) [1, 2, 3, 0] rfl ?_
  exact w_X4_cheapestByDays_2 b hb hd    5000 x1 x2 x1 v hp hQ
def f_X4_cheapestByDays (b : Nat) (x1 : Int32) (x2 : Int32) (v : gV) : Int32 × gV := f_X4_cheapestByDays_0 b x1 x2 v
def p_X4_cheapestByDays (b : Nat) (x1 : Int32) (x2 : Int32) (v : gV) : Prop := p_X4_cheapestByDays_0 b x1 x2 v
theorem c_X4_cheapestByDays {E : gE} {d : Nat} (b : Nat) (hb : isBk b) (hd : 2 ≤ d) (x1 : Int32) (x2 : Int32) (v : gV) (hp : p_X4_cheapestByDays b x1 x2 v) : CT E m_X4_cheapestByDays d 0 0 [.ref (gX E + (b + 45)), .int x1, .int x2] (rS v) (Cq (.inl (some (.int ((f_X4_cheapestByDays b x1 x2 v).1)))) (f_X4_cheapestByDays b x1 x2 v).2) := CT.of ok_X4_cheapestByDays rfl (Nat.le_of_ble_eq_true rfl) (w_X4_cheapestByDays_0 b hb hd x1 x2 v hp ⟨rfl, rfl⟩)
def f_X4_isCover_47 (b : Nat) (s0 : Int32) (v : gV) : Int32 := s0
def p_X4_isCover_47 (b : Nat) (s0 : Int32) (v : gV) : Prop := (s0 = 0 ∨ s0 = 1) ∧ (True)
set_option maxHeartbeats 4000000 in
set_option maxRecDepth 100000 in
theorem w_X4_isCover_47 {E : gE} {d : Nat} {Q : gO → gS → Prop} (b : Nat) (hb : isBk b) (hd : 2 ≤ d) (s0 : Int32) (v : gV) (hp : p_X4_isCover_47 b   s0 v) (hQ : gqI Q v (f_X4_isCover_47 b  s0 v)) : gG E m_X4_isCover d Q 0 0 (rS v) 47 [] [.int s0] := by
  obtain ⟨h3, hp⟩ := hp
  exact g_zret rfl (nz h3) dX4_isCover_47 hQ
def f_X4_isCover_36 (b : Nat) (x3 : Int32) (x4 : Int32) (v : gV) : Int32 := if x4 ≤ x3 then (f_X4_isCover_47 b  (0 : Int32) v) else (f_X4_isCover_47 b  (1 : Int32) v)
def p_X4_isCover_36 (b : Nat) (x3 : Int32) (x4 : Int32) (v : gV) : Prop := ((x4 ≤ x3) → (p_X4_isCover_47 b   (0 : Int32) v)) ∧ (¬ (x4 ≤ x3) → (p_X4_isCover_47 b   (1 : Int32) v))
set_option maxHeartbeats 4000000 in
set_option maxRecDepth 100000 in
theorem w_X4_isCover_36 {E : gE} {d : Nat} {Q : gO → gS → Prop} (b : Nat) (hb : isBk b) (hd : 2 ≤ d) (x3 : Int32) (x4 : Int32) (v : gV) (hp : p_X4_isCover_36 b   x3 x4 v) (hQ : gqI Q v (f_X4_isCover_36 b  x3 x4 v)) : gG E m_X4_isCover d Q 0 0 (rS v) 36 [(3, .int x3), (4, .int x4)] [] := by
  refine g_iload 1 dX4_isCover_36 rfl ?_
  refine g_iload_n 0 dX4_isCover_38 rfl ?_
  refine g_icmp_le 46 dX4_isCover_39 (by decide) (fun h2 => ?_) (fun h2 => ?_)
  · have hQ := qp (P := gqI Q v) h2 hQ
    have hp := hp.1 h2
    refine g_iconst dX4_isCover_46 (0 : Int32) (by decide) ?_
    refine g_lv (lv' := []) [] rfl ?_
    exact w_X4_isCover_47 b hb hd    (0 : Int32) v hp hQ
  · have hQ := qn (P := gqI Q v) h2 hQ
    have hp := hp.2 h2
    refine g_iconst dX4_isCover_42 (1 : Int32) (by decide) ?_
    refine g_goto 47 dX4_isCover_43 (by decide) ?_
    refine g_lv (lv' := []) [] rfl ?_
    exact w_X4_isCover_47 b hb hd    (1 : Int32) v hp hQ
def f_X4_isCover_6 (b : Nat) : Nat → Int32 → Int32 → Int32 → Int32 → gV → Int32
  | 0, _, _, _, _, v => 0
  | n + 1, x1, x3, x4, x5, v => if (v.1 (b + 45) 4) ≤ x5 then (f_X4_isCover_36 b  x3 x4 v) else (if x3 < x4 then (f_X4_isCover_36 b  x3 x4 v) else (f_X4_isCover_6 b  n x1 x3 (f_X4_dayAfter b x1 x4 v) (x5 + 1) v))
def p_X4_isCover_6 (b : Nat) : Nat → Int32 → Int32 → Int32 → Int32 → gV → Prop
  | 0, _, _, _, _, _ => False
  | n + 1, x1, x3, x4, x5, v => (((v.1 (b + 45) 4) ≤ x5) → (p_X4_isCover_36 b   x3 x4 v)) ∧ (¬ ((v.1 (b + 45) 4) ≤ x5) → (((x3 < x4) → (p_X4_isCover_36 b   x3 x4 v)) ∧ (¬ (x3 < x4) → ((p_X4_dayAfter b x1 x4 v) ∧ (p_X4_isCover_6 b   n x1 x3 (f_X4_dayAfter b x1 x4 v) (x5 + 1) v)))))
set_option maxHeartbeats 4000000 in
set_option maxRecDepth 100000 in
theorem w_X4_isCover_6 {E : gE} {d : Nat} {Q : gO → gS → Prop} (b : Nat) (hb : isBk b) (hd : 2 ≤ d) : ∀ (n : Nat) (x1 : Int32) (x3 : Int32) (x4 : Int32) (x5 : Int32) (v : gV), p_X4_isCover_6 b   n x1 x3 x4 x5 v → gqI Q v (f_X4_isCover_6 b  n x1 x3 x4 x5 v) → gG E m_X4_isCover d Q 0 0 (rS v) 6 [(0, .ref (gX E + (b + 45))), (1, .int x1), (3, .int x3), (4, .int x4), (5, .int x5)] [] := by
  intro n
  induction n with
  | zero => intro x1 x3 x4 x5 v hp; exact hp.elim
  | succ n ih =>
    intro x1 x3 x4 x5 v hp hQ
    refine g_iload 4 dX4_isCover_6 rfl ?_
    refine g_aload_n 0 dX4_isCover_8 rfl ?_
    refine r_get (.int (v.1 (b + 45) 4)) f_X4_28_X4 rfl (kb_45 hb) (lt_b hb (by decide)) dX4_isCover_9 (fun _ => rfl) ?_
    refine g_icmp_ge 36 dX4_isCover_12 (by decide) (fun h1 => ?_) (fun h1 => ?_)
    · have hQ := qp (P := gqI Q v) h1 hQ
      have hp := hp.1 h1
      refine g_lv (lv' := [(3, .int x3), (4, .int x4)]) [2, 3] rfl ?_
      exact w_X4_isCover_36 b hb hd    x3 x4 v hp hQ
    · have hQ := qn (P := gqI Q v) h1 hQ
      have hp := hp.2 h1
      refine g_iload 3 dX4_isCover_15 rfl ?_
      refine g_iload_n 2 dX4_isCover_17 rfl ?_
      refine g_icmp_gt 36 dX4_isCover_18 (by decide) (fun h4 => ?_) (fun h4 => ?_)
      · have hQ := qp (P := gqI Q v) h4 hQ
        have hp := hp.1 h4
        refine g_lv (lv' := [(3, .int x3), (4, .int x4)]) [2, 3] rfl ?_
        exact w_X4_isCover_36 b hb hd    x3 x4 v hp hQ
      · have hQ := qn (P := gqI Q v) h4 hQ
        have hp := hp.2 h4
        refine g_aload_n 0 dX4_isCover_21 rfl ?_
        refine g_iload_n 1 dX4_isCover_22 rfl ?_
        refine g_iload 3 dX4_isCover_23 rfl ?_
        obtain ⟨h5, hp⟩ := hp
        refine g_callV (rest := []) s_X4_63_X4 rfl (c_X4_dayAfter (E := E) (d := d - 1) b hb (by omega) x1 x4 v h5) (kb_45 hb) (lt_b hb (by decide)) rfl rfl (Nat.le_of_ble_eq_true rfl) (by omega) (by decide) (by decide) dX4_isCover_25 (adV ?_) axN
        refine g_istore [(4, .int ((f_X4_dayAfter b x1 x4 v))), (0, .ref (gX E + (b + 45))), (1, .int x1), (3, .int x3), (5, .int x5)] dX4_isCover_28 (by decide) rfl ?_
        refine g_iinc 4 (x5 + 1) [(5, .int (x5 + 1)), (4, .int ((f_X4_dayAfter b x1 x4 v))), (0, .ref (gX E + (b + 45))), (1, .int x1), (3, .int x3)] dX4_isCover_30 rfl rfl (by decide) rfl ?_
        refine g_goto 6 dX4_isCover_33 (by decide) ?_
        refine g_lv (lv' := [(0, .ref (gX E + (b + 45))), (1, .int x1), (3, .int x3), (4, .int ((f_X4_dayAfter b x1 x4 v))), (5, .int (x5 + 1))]) [2, 3, 4, 1, 0] rfl ?_
        exact ih x1 x3 (f_X4_dayAfter b x1 x4 v) (x5 + 1) v hp hQ
def f_X4_isCover_0 (b : Nat) (x1 : Int32) (x2 : Int32) (x3 : Int32) (v : gV) : Int32 := f_X4_isCover_6 b  5000 x1 x3 x2 (0 : Int32) v
def p_X4_isCover_0 (b : Nat) (x1 : Int32) (x2 : Int32) (x3 : Int32) (v : gV) : Prop := p_X4_isCover_6 b   5000 x1 x3 x2 (0 : Int32) v
set_option maxHeartbeats 4000000 in
set_option maxRecDepth 100000 in
theorem w_X4_isCover_0 {E : gE} {d : Nat} {Q : gO → gS → Prop} (b : Nat) (hb : isBk b) (hd : 2 ≤ d) (x1 : Int32) (x2 : Int32) (x3 : Int32) (v : gV) (hp : p_X4_isCover_0 b   x1 x2 x3 v) (hQ : gqI Q v (f_X4_isCover_0 b  x1 x2 x3 v)) : gG E m_X4_isCover d Q 0 0 (rS v) 0 [(0, .ref (gX E + (b + 45))), (1, .int x1), (2, .int x2), (3, .int x3)] [] := by
  refine g_iload_n 2 dX4_isCover_0 rfl ?_
  refine g_istore [(4, .int x2), (0, .ref (gX E + (b + 45))), (1, .int x1), (2, .int x2), (3, .int x3)] dX4_isCover_1 (by decide) rfl ?_
  refine g_iconst dX4_isCover_3 (0 : Int32) (by decide) ?_
  refine g_istore [(5, .int ((0 : Int32))), (4, .int x2), (0, .ref (gX E + (b + 45))), (1, .int x1), (2, .int x2), (3, .int x3)] dX4_isCover_4 (by decide) rfl ?_
  refine g_lv (lv' := [(0, .ref (gX E + (b + 45))), (1, .int x1), (3, .int x3), (4, .int x2), (5, .int ((0 : Int32)))]) [2, 3, 5, 1, 0] rfl ?_
  exact w_X4_isCover_6 b hb hd    5000 x1 x3 x2 (0 : Int32) v hp hQ
def f_X4_isCover (b : Nat) (x1 : Int32) (x2 : Int32) (x3 : Int32) (v : gV) : Int32 := f_X4_isCover_0 b x1 x2 x3 v
def p_X4_isCover (b : Nat) (x1 : Int32) (x2 : Int32) (x3 : Int32) (v : gV) : Prop := p_X4_isCover_0 b x1 x2 x3 v
theorem c_X4_isCover {E : gE} {d : Nat} (b : Nat) (hb : isBk b) (hd : 2 ≤ d) (x1 : Int32) (x2 : Int32) (x3 : Int32) (v : gV) (hp : p_X4_isCover b x1 x2 x3 v) : CT E m_X4_isCover d 0 0 [.ref (gX E + (b + 45)), .int x1, .int x2, .int x3] (rS v) (Cq (.inl (some (.int (f_X4_isCover b x1 x2 x3 v)))) v) := CT.of ok_X4_isCover rfl (Nat.le_of_ble_eq_true rfl) (w_X4_isCover_0 b hb hd x1 x2 x3 v hp ⟨rfl, rfl⟩)
def f_X5_countByTable_61 (b : Nat) : Nat → Int32 → Int64 → Int32 → gV → Int64 × gV
  | 0, _, _, _, v => (0, v)
  | n + 1, x1, x3, x5, v => if (if (240 : Int32) < x1 then (240 : Int32) else x1) < x5 then ((x3, v)) else (f_X5_countByTable_61 b  n x1 (x3 + (v.2.1 (b + 9) x5.toNatClampNeg)) (x5 + 1) v)
def p_X5_countByTable_61 (b : Nat) : Nat → Int32 → Int64 → Int32 → gV → Prop
  | 0, _, _, _, _ => False
  | n + 1, x1, x3, x5, v => (((if (240 : Int32) < x1 then (240 : Int32) else x1) < x5) → (True)) ∧ (¬ ((if (240 : Int32) < x1 then (240 : Int32) else x1) < x5) → ((vp_in x5 241) ∧ (p_X5_countByTable_61 b   n x1 (x3 + (v.2.1 (b + 9) x5.toNatClampNeg)) (x5 + 1) v)))
set_option maxHeartbeats 4000000 in
set_option maxRecDepth 100000 in
theorem w_X5_countByTable_61 {E : gE} {d : Nat} {Q : gO → gS → Prop} (b : Nat) (hb : isBk b) (hd : 1 ≤ d) : ∀ (n : Nat) (x1 : Int32) (x3 : Int64) (x5 : Int32) (v : gV), p_X5_countByTable_61 b   n x1 x3 x5 v → gqJV Q (f_X5_countByTable_61 b  n x1 x3 x5 v) → gG E m_X5_countByTable d Q 0 0 (rS v) 61 [(0, .ref (gX E + (b + 1))), (1, .int x1), (3, .long x3), (5, .int x5)] [] := by
  intro n
  induction n with
  | zero => intro x1 x3 x5 v hp; exact hp.elim
  | succ n ih =>
    intro x1 x3 x5 v hp hQ
    refine g_iload 3 dX5_countByTable_61 rfl ?_
    refine g_iload_n 1 dX5_countByTable_63 rfl ?_
    refine g_sipush dX5_countByTable_64 (240 : Int32) (by decide) ?_
    refine r_mmin mw_X5_87 rfl (Nat.le_of_ble_eq_true rfl) (by omega) dX5_countByTable_67 ?_
    refine g_icmp_gt 89 dX5_countByTable_70 (by decide) (fun h3 => ?_) (fun h3 => ?_)
    · have hQ := qp (P := gqJV Q) h3 hQ
      have hp := hp.1 h3
      refine g_lload_n 2 dX5_countByTable_89 rfl ?_
      exact g_lret rfl dX5_countByTable_90 hQ
    · have hQ := qn (P := gqJV Q) h3 hQ
      have hp := hp.2 h3
      refine g_lload_n 2 dX5_countByTable_73 rfl ?_
      refine g_aload_n 0 dX5_countByTable_74 rfl ?_
      refine r_get (.ref (gX E + (b + 9))) f_X5_30_X5 rfl (kb_1 hb) (lt_b hb (by decide)) dX5_countByTable_75 (fun _ => rfl) ?_
      refine g_iload 3 dX5_countByTable_78 rfl ?_
      obtain ⟨h4, hp⟩ := hp
      refine g_lald (kb_9 hb) (lt_b hb (by decide)) h4 dX5_countByTable_80 ?_
      refine g_ladd dX5_countByTable_81 ?_
      refine g_lstore_n [(3, .long (x3 + (v.2.1 (b + 9) x5.toNatClampNeg))), (0, .ref (gX E + (b + 1))), (1, .int x1), (5, .int x5)] dX5_countByTable_82 rfl (by decide) rfl ?_
      refine g_iinc 3 (x5 + 1) [(5, .int (x5 + 1)), (3, .long (x3 + (v.2.1 (b + 9) x5.toNatClampNeg))), (0, .ref (gX E + (b + 1))), (1, .int x1)] dX5_countByTable_83 rfl rfl (by decide) rfl ?_
      refine g_goto 61 dX5_countByTable_86 (by decide) ?_
      refine g_lv (lv' := [(0, .ref (gX E + (b + 1))), (1, .int x1), (3, .long (x3 + (v.2.1 (b + 9) x5.toNatClampNeg))), (5, .int (x5 + 1))]) [2, 3, 1, 0] rfl ?_
      exact ih x1 (x3 + (v.2.1 (b + 9) x5.toNatClampNeg)) (x5 + 1) v hp hQ
def f_X5_countByTable_50 (b : Nat) (K17 : Int32 → Int32 → Int32 → gV → Int64 × gV)  (x1 : Int32) (x2 : Int32) (x3 : Int32) (v : gV) : Int64 × gV := K17 x1 x2 (x3 + 1) v
def p_X5_countByTable_50 (b : Nat) (K17 : Int32 → Int32 → Int32 → gV → Int64 × gV)  (PK17 : Int32 → Int32 → Int32 → gV → Prop)  (x1 : Int32) (x2 : Int32) (x3 : Int32) (v : gV) : Prop := PK17 x1 x2 (x3 + 1) v
set_option maxHeartbeats 4000000 in
set_option maxRecDepth 100000 in
theorem w_X5_countByTable_50 {E : gE} {d : Nat} {Q : gO → gS → Prop} (b : Nat) (hb : isBk b) (hd : 1 ≤ d) (K17 : Int32 → Int32 → Int32 → gV → Int64 × gV)  (PK17 : Int32 → Int32 → Int32 → gV → Prop)  (hK17 : ∀ (x1 : Int32) (x2 : Int32) (x3 : Int32) (v : gV), PK17 x1 x2 x3 v → gqJV Q (K17 x1 x2 x3 v) → gG E m_X5_countByTable d Q 0 0 (rS v) 17 [(0, .ref (gX E + (b + 1))), (1, .int x1), (2, .int x2), (3, .int x3)] [])  (x1 : Int32) (x2 : Int32) (x3 : Int32) (v : gV) (hp : p_X5_countByTable_50 b K17 PK17 x1 x2 x3 v) (hQ : gqJV Q (f_X5_countByTable_50 b K17 x1 x2 x3 v)) : gG E m_X5_countByTable d Q 0 0 (rS v) 50 [(0, .ref (gX E + (b + 1))), (1, .int x1), (2, .int x2), (3, .int x3)] [] := by
  refine g_iinc 3 (x3 + 1) [(3, .int (x3 + 1)), (0, .ref (gX E + (b + 1))), (1, .int x1), (2, .int x2)] dX5_countByTable_50 rfl rfl (by decide) rfl ?_
  refine g_goto 17 dX5_countByTable_53 (by decide) ?_
  refine g_lv (lv' := [(0, .ref (gX E + (b + 1))), (1, .int x1), (2, .int x2), (3, .int (x3 + 1))]) [1, 2, 3, 0] rfl ?_
  exact hK17 x1 x2 (x3 + 1) v hp hQ
def f_X5_countByTable_17 (b : Nat) : Nat → Int32 → Int32 → Int32 → gV → Int64 × gV
  | 0, _, _, _, v => (0, v)
  | n + 1, x1, x2, x3, v => if (v.1 (b + 1) 1) ≤ x3 then (f_X5_countByTable_61 b  5000 x1 (0 : Int64) (0 : Int32) v) else (if (f_X5_isActiveAt b x3 x2 v) = 0 then (f_X5_countByTable_50 b (fun x1 x2 x3 v => f_X5_countByTable_17 b  n x1 x2 x3 v) x1 x2 x3 v) else (f_X5_countByTable_50 b (fun x1 x2 x3 v => f_X5_countByTable_17 b  n x1 x2 x3 v) x1 x2 x3 (f_X5_addBoat b (v.1 (b + 3) x3.toNatClampNeg) (v.1 (b + 4) x3.toNatClampNeg) v)))
def p_X5_countByTable_17 (b : Nat) : Nat → Int32 → Int32 → Int32 → gV → Prop
  | 0, _, _, _, _ => False
  | n + 1, x1, x2, x3, v => (((v.1 (b + 1) 1) ≤ x3) → (p_X5_countByTable_61 b   5000 x1 (0 : Int64) (0 : Int32) v)) ∧ (¬ ((v.1 (b + 1) 1) ≤ x3) → ((p_X5_isActiveAt b x3 x2 v) ∧ ((((f_X5_isActiveAt b x3 x2 v) = 0) → (p_X5_countByTable_50 b (fun x1 x2 x3 v => f_X5_countByTable_17 b  n x1 x2 x3 v) (fun x1 x2 x3 v => p_X5_countByTable_17 b   n x1 x2 x3 v) x1 x2 x3 v)) ∧ (¬ ((f_X5_isActiveAt b x3 x2 v) = 0) → ((vp_in x3 8) ∧ ((vp_in x3 8) ∧ ((p_X5_addBoat b (v.1 (b + 3) x3.toNatClampNeg) (v.1 (b + 4) x3.toNatClampNeg) v) ∧ (p_X5_countByTable_50 b (fun x1 x2 x3 v => f_X5_countByTable_17 b  n x1 x2 x3 v) (fun x1 x2 x3 v => p_X5_countByTable_17 b   n x1 x2 x3 v) x1 x2 x3 (f_X5_addBoat b (v.1 (b + 3) x3.toNatClampNeg) (v.1 (b + 4) x3.toNatClampNeg) v)))))))))
set_option maxHeartbeats 4000000 in
set_option maxRecDepth 100000 in
theorem w_X5_countByTable_17 {E : gE} {d : Nat} {Q : gO → gS → Prop} (b : Nat) (hb : isBk b) (hd : 1 ≤ d) : ∀ (n : Nat) (x1 : Int32) (x2 : Int32) (x3 : Int32) (v : gV), p_X5_countByTable_17 b   n x1 x2 x3 v → gqJV Q (f_X5_countByTable_17 b  n x1 x2 x3 v) → gG E m_X5_countByTable d Q 0 0 (rS v) 17 [(0, .ref (gX E + (b + 1))), (1, .int x1), (2, .int x2), (3, .int x3)] [] := by
  intro n
  induction n with
  | zero => intro x1 x2 x3 v hp; exact hp.elim
  | succ n ih =>
    intro x1 x2 x3 v hp hQ
    refine g_iload_n 3 dX5_countByTable_17 rfl ?_
    refine g_aload_n 0 dX5_countByTable_18 rfl ?_
    refine r_get (.int (v.1 (b + 1) 1)) f_X5_71_X5 rfl (kb_1 hb) (lt_b hb (by decide)) dX5_countByTable_19 (fun _ => rfl) ?_
    refine g_icmp_ge 56 dX5_countByTable_22 (by decide) (fun h2 => ?_) (fun h2 => ?_)
    · have hQ := qp (P := gqJV Q) h2 hQ
      have hp := hp.1 h2
      refine g_lconst dX5_countByTable_56 (0 : Int64) (by decide) ?_
      refine g_lstore_n [(3, .long ((0 : Int64))), (0, .ref (gX E + (b + 1))), (1, .int x1), (2, .int x2)] dX5_countByTable_57 rfl (by decide) rfl ?_
      refine g_iconst dX5_countByTable_58 (0 : Int32) (by decide) ?_
      refine g_istore [(5, .int ((0 : Int32))), (3, .long ((0 : Int64))), (0, .ref (gX E + (b + 1))), (1, .int x1), (2, .int x2)] dX5_countByTable_59 (by decide) rfl ?_
      refine g_lv (lv' := [(0, .ref (gX E + (b + 1))), (1, .int x1), (3, .long ((0 : Int64))), (5, .int ((0 : Int32)))]) [2, 3, 1, 0] rfl ?_
      exact w_X5_countByTable_61 b hb hd    5000 x1 (0 : Int64) (0 : Int32) v hp hQ
    · have hQ := qn (P := gqJV Q) h2 hQ
      have hp := hp.2 h2
      refine g_aload_n 0 dX5_countByTable_25 rfl ?_
      refine g_iload_n 3 dX5_countByTable_26 rfl ?_
      refine g_iload_n 2 dX5_countByTable_27 rfl ?_
      obtain ⟨h5, hp⟩ := hp
      refine g_callV (rest := []) s_X5_64_X5 rfl (c_X5_isActiveAt (E := E) (d := d - 1) b hb (by omega) x3 x2 v h5) (kb_1 hb) (lt_b hb (by decide)) rfl rfl (Nat.le_of_ble_eq_true rfl) (by omega) (by decide) (by decide) dX5_countByTable_28 (adV ?_) axN
      refine g_if_eq 50 dX5_countByTable_31 (by decide) (fun h6 => ?_) (fun h6 => ?_)
      · have hQ := qp (P := gqJV Q) h6 hQ
        have hp := hp.1 h6
        exact w_X5_countByTable_50 b hb hd (fun x1 x2 x3 v => f_X5_countByTable_17 b  n x1 x2 x3 v) (fun x1 x2 x3 v => p_X5_countByTable_17 b   n x1 x2 x3 v) ih x1 x2 x3 v hp hQ
      · have hQ := qn (P := gqJV Q) h6 hQ
        have hp := hp.2 h6
        refine g_aload_n 0 dX5_countByTable_34 rfl ?_
        refine g_aload_n 0 dX5_countByTable_35 rfl ?_
        refine r_get (.ref (gX E + (b + 3))) f_X5_9_X5 rfl (kb_1 hb) (lt_b hb (by decide)) dX5_countByTable_36 (fun _ => rfl) ?_
        refine g_iload_n 3 dX5_countByTable_39 rfl ?_
        obtain ⟨h7, hp⟩ := hp
        refine g_iald (kb_3 hb) (lt_b hb (by decide)) h7 dX5_countByTable_40 ?_
        refine g_aload_n 0 dX5_countByTable_41 rfl ?_
        refine r_get (.ref (gX E + (b + 4))) f_X5_15_X5 rfl (kb_1 hb) (lt_b hb (by decide)) dX5_countByTable_42 (fun _ => rfl) ?_
        refine g_iload_n 3 dX5_countByTable_45 rfl ?_
        obtain ⟨h8, hp⟩ := hp
        refine g_iald (kb_4 hb) (lt_b hb (by decide)) h8 dX5_countByTable_46 ?_
        obtain ⟨h9, hp⟩ := hp
        refine g_callV (rest := []) s_X5_83_X5 rfl (c_X5_addBoat (E := E) (d := d - 1) b hb (by omega) (v.1 (b + 3) x3.toNatClampNeg) (v.1 (b + 4) x3.toNatClampNeg) v h9) (kb_1 hb) (lt_b hb (by decide)) rfl rfl (Nat.le_of_ble_eq_true rfl) (by omega) (by decide) (by decide) dX5_countByTable_47 (adN ?_) axN
        exact w_X5_countByTable_50 b hb hd (fun x1 x2 x3 v => f_X5_countByTable_17 b  n x1 x2 x3 v) (fun x1 x2 x3 v => p_X5_countByTable_17 b   n x1 x2 x3 v) ih x1 x2 x3 (f_X5_addBoat b (v.1 (b + 3) x3.toNatClampNeg) (v.1 (b + 4) x3.toNatClampNeg) v) hp hQ
def f_X5_countByTable_15 (b : Nat) (x1 : Int32) (x2 : Int32) (v : gV) : Int64 × gV := f_X5_countByTable_17 b  5000 x1 x2 (0 : Int32) v
def p_X5_countByTable_15 (b : Nat) (x1 : Int32) (x2 : Int32) (v : gV) : Prop := p_X5_countByTable_17 b   5000 x1 x2 (0 : Int32) v
set_option maxHeartbeats 4000000 in
set_option maxRecDepth 100000 in
theorem w_X5_countByTable_15 {E : gE} {d : Nat} {Q : gO → gS → Prop} (b : Nat) (hb : isBk b) (hd : 1 ≤ d) (x1 : Int32) (x2 : Int32) (v : gV) (hp : p_X5_countByTable_15 b   x1 x2 v) (hQ : gqJV Q (f_X5_countByTable_15 b  x1 x2 v)) : gG E m_X5_countByTable d Q 0 0 (rS v) 15 [(0, .ref (gX E + (b + 1))), (1, .int x1), (2, .int x2)] [] := by
  refine g_iconst dX5_countByTable_15 (0 : Int32) (by decide) ?_
  refine g_istore_n [(3, .int ((0 : Int32))), (0, .ref (gX E + (b + 1))), (1, .int x1), (2, .int x2)] dX5_countByTable_16 rfl (by decide) rfl ?_
  refine g_lv (lv' := [(0, .ref (gX E + (b + 1))), (1, .int x1), (2, .int x2), (3, .int ((0 : Int32)))]) [1, 2, 3, 0] rfl ?_
  exact w_X5_countByTable_17 b hb hd    5000 x1 x2 (0 : Int32) v hp hQ
def f_X5_countByTable_8 (b : Nat) (x1 : Int32) (x2 : Int32) (v : gV) : Int64 × gV := f_X5_countByTable_15 b  x1 x2 (vL v (b + 9) (0 : Int32).toNatClampNeg (1 : Int64))
def p_X5_countByTable_8 (b : Nat) (x1 : Int32) (x2 : Int32) (v : gV) : Prop := p_X5_countByTable_15 b   x1 x2 (vL v (b + 9) (0 : Int32).toNatClampNeg (1 : Int64))
set_option maxHeartbeats 4000000 in
set_option maxRecDepth 100000 in
theorem w_X5_countByTable_8 {E : gE} {d : Nat} {Q : gO → gS → Prop} (b : Nat) (hb : isBk b) (hd : 1 ≤ d) (x1 : Int32) (x2 : Int32) (v : gV) (hp : p_X5_countByTable_8 b   x1 x2 v) (hQ : gqJV Q (f_X5_countByTable_8 b  x1 x2 v)) : gG E m_X5_countByTable d Q 0 0 (rS v) 8 [(0, .ref (gX E + (b + 1))), (1, .int x1), (2, .int x2)] [] := by
  refine g_aload_n 0 dX5_countByTable_8 rfl ?_
  refine r_get (.ref (gX E + (b + 9))) f_X5_30_X5 rfl (kb_1 hb) (lt_b hb (by decide)) dX5_countByTable_9 (fun _ => rfl) ?_
  refine g_iconst dX5_countByTable_12 (0 : Int32) (by decide) ?_
  refine g_lconst dX5_countByTable_13 (1 : Int64) (by decide) ?_
  refine r_last (kb_9 hb) (lt_b hb (by decide)) (show ¬ (_ ∨ _) by decide) dX5_countByTable_14 ?_
  exact w_X5_countByTable_15 b hb hd    x1 x2 (vL v (b + 9) (0 : Int32).toNatClampNeg (1 : Int64)) hp hQ
def f_X5_countByTable_0 (b : Nat) (x1 : Int32) (x2 : Int32) (v : gV) : Int64 × gV := f_X5_countByTable_8 b  x1 x2 (f_J7_fill_d0a16 (b + 9) 241 (0 : Int64) v)
def p_X5_countByTable_0 (b : Nat) (x1 : Int32) (x2 : Int32) (v : gV) : Prop := (p_J7_fill_d0a16 (b + 9) 241 (0 : Int64) v) ∧ (p_X5_countByTable_8 b   x1 x2 (f_J7_fill_d0a16 (b + 9) 241 (0 : Int64) v))
set_option maxHeartbeats 4000000 in
set_option maxRecDepth 100000 in
theorem w_X5_countByTable_0 {E : gE} {d : Nat} {Q : gO → gS → Prop} (b : Nat) (hb : isBk b) (hd : 1 ≤ d) (x1 : Int32) (x2 : Int32) (v : gV) (hp : p_X5_countByTable_0 b   x1 x2 v) (hQ : gqJV Q (f_X5_countByTable_0 b  x1 x2 v)) : gG E m_X5_countByTable d Q 0 0 (rS v) 0 [(0, .ref (gX E + (b + 1))), (1, .int x1), (2, .int x2)] [] := by
  refine g_aload_n 0 dX5_countByTable_0 rfl ?_
  refine r_get (.ref (gX E + (b + 9))) f_X5_30_X5 rfl (kb_1 hb) (lt_b hb (by decide)) dX5_countByTable_1 (fun _ => rfl) ?_
  refine g_lconst dX5_countByTable_4 (0 : Int64) (by decide) ?_
  obtain ⟨h1, hp⟩ := hp
  refine g_callS (rest := []) s_X5_77 rfl (c_J7_fill_d0a16 (E := E) (d := d - 1) (b + 9) 241 (by decide) (kb_9 hb) (lt_b hb (by decide)) (by omega) (0 : Int64) v h1) rfl rfl (Nat.le_of_ble_eq_true rfl) (by omega) (by decide) (by decide) dX5_countByTable_5 (adN ?_) axN
  exact w_X5_countByTable_8 b hb hd    x1 x2 (f_J7_fill_d0a16 (b + 9) 241 (0 : Int64) v) hp hQ
def f_X5_countByTable (b : Nat) (x1 : Int32) (x2 : Int32) (v : gV) : Int64 × gV := f_X5_countByTable_0 b x1 x2 v
def p_X5_countByTable (b : Nat) (x1 : Int32) (x2 : Int32) (v : gV) : Prop := p_X5_countByTable_0 b x1 x2 v
theorem c_X5_countByTable {E : gE} {d : Nat} (b : Nat) (hb : isBk b) (hd : 1 ≤ d) (x1 : Int32) (x2 : Int32) (v : gV) (hp : p_X5_countByTable b x1 x2 v) : CT E m_X5_countByTable d 0 0 [.ref (gX E + (b + 1)), .int x1, .int x2] (rS v) (Cq (.inl (some (.long ((f_X5_countByTable b x1 x2 v).1)))) (f_X5_countByTable b x1 x2 v).2) := CT.of ok_X5_countByTable rfl (Nat.le_of_ble_eq_true rfl) (w_X5_countByTable_0 b hb hd x1 x2 v hp ⟨rfl, rfl⟩)
def f_X5_countBySets_36 (b : Nat) (K5 : Int32 → Int32 → Int64 → Int32 → gV → Int64)  (x1 : Int32) (x2 : Int32) (x3 : Int64) (x5 : Int32) (v : gV) : Int64 := K5 x1 x2 x3 (x5 + 1) v
def p_X5_countBySets_36 (b : Nat) (K5 : Int32 → Int32 → Int64 → Int32 → gV → Int64)  (PK5 : Int32 → Int32 → Int64 → Int32 → gV → Prop)  (x1 : Int32) (x2 : Int32) (x3 : Int64) (x5 : Int32) (v : gV) : Prop := PK5 x1 x2 x3 (x5 + 1) v
set_option maxHeartbeats 4000000 in
set_option maxRecDepth 100000 in
theorem w_X5_countBySets_36 {E : gE} {d : Nat} {Q : gO → gS → Prop} (b : Nat) (hb : isBk b) (hd : 2 ≤ d) (K5 : Int32 → Int32 → Int64 → Int32 → gV → Int64)  (PK5 : Int32 → Int32 → Int64 → Int32 → gV → Prop)  (hK5 : ∀ (x1 : Int32) (x2 : Int32) (x3 : Int64) (x5 : Int32) (v : gV), PK5 x1 x2 x3 x5 v → gqJ Q v (K5 x1 x2 x3 x5 v) → gG E m_X5_countBySets d Q 0 0 (rS v) 5 [(0, .ref (gX E + (b + 1))), (1, .int x1), (2, .int x2), (3, .long x3), (5, .int x5)] [])  (x1 : Int32) (x2 : Int32) (x3 : Int64) (x5 : Int32) (v : gV) (hp : p_X5_countBySets_36 b K5 PK5 x1 x2 x3 x5 v) (hQ : gqJ Q v (f_X5_countBySets_36 b K5 x1 x2 x3 x5 v)) : gG E m_X5_countBySets d Q 0 0 (rS v) 36 [(0, .ref (gX E + (b + 1))), (1, .int x1), (2, .int x2), (3, .long x3), (5, .int x5)] [] := by
  refine g_iinc 4 (x5 + 1) [(5, .int (x5 + 1)), (0, .ref (gX E + (b + 1))), (1, .int x1), (2, .int x2), (3, .long x3)] dX5_countBySets_36 rfl rfl (by decide) rfl ?_
  refine g_goto 5 dX5_countBySets_39 (by decide) ?_
  refine g_lv (lv' := [(0, .ref (gX E + (b + 1))), (1, .int x1), (2, .int x2), (3, .long x3), (5, .int (x5 + 1))]) [1, 2, 3, 4, 0] rfl ?_
  exact hK5 x1 x2 x3 (x5 + 1) v hp hQ
def f_X5_countBySets_5 (b : Nat) : Nat → Int32 → Int32 → Int64 → Int32 → gV → Int64
  | 0, _, _, _, _, v => 0
  | n + 1, x1, x2, x3, x5, v => if ((1 : Int32) <<< ((v.1 (b + 1) 1) &&& 31)) ≤ x5 then x3 else (if x1 < (f_X5_lossOfSet b x5 v) then (f_X5_countBySets_36 b (fun x1 x2 x3 x5 v => f_X5_countBySets_5 b  n x1 x2 x3 x5 v) x1 x2 x3 x5 v) else (f_X5_countBySets_36 b (fun x1 x2 x3 x5 v => f_X5_countBySets_5 b  n x1 x2 x3 x5 v) x1 x2 (x3 + (f_X5_waysOfSet b x5 x2 v)) x5 v))
def p_X5_countBySets_5 (b : Nat) : Nat → Int32 → Int32 → Int64 → Int32 → gV → Prop
  | 0, _, _, _, _, _ => False
  | n + 1, x1, x2, x3, x5, v => ((((1 : Int32) <<< ((v.1 (b + 1) 1) &&& 31)) ≤ x5) → (True)) ∧ (¬ (((1 : Int32) <<< ((v.1 (b + 1) 1) &&& 31)) ≤ x5) → ((p_X5_lossOfSet b x5 v) ∧ (((x1 < (f_X5_lossOfSet b x5 v)) → (p_X5_countBySets_36 b (fun x1 x2 x3 x5 v => f_X5_countBySets_5 b  n x1 x2 x3 x5 v) (fun x1 x2 x3 x5 v => p_X5_countBySets_5 b   n x1 x2 x3 x5 v) x1 x2 x3 x5 v)) ∧ (¬ (x1 < (f_X5_lossOfSet b x5 v)) → ((p_X5_waysOfSet b x5 x2 v) ∧ (p_X5_countBySets_36 b (fun x1 x2 x3 x5 v => f_X5_countBySets_5 b  n x1 x2 x3 x5 v) (fun x1 x2 x3 x5 v => p_X5_countBySets_5 b   n x1 x2 x3 x5 v) x1 x2 (x3 + (f_X5_waysOfSet b x5 x2 v)) x5 v))))))
set_option maxHeartbeats 4000000 in
set_option maxRecDepth 100000 in
theorem w_X5_countBySets_5 {E : gE} {d : Nat} {Q : gO → gS → Prop} (b : Nat) (hb : isBk b) (hd : 2 ≤ d) : ∀ (n : Nat) (x1 : Int32) (x2 : Int32) (x3 : Int64) (x5 : Int32) (v : gV), p_X5_countBySets_5 b   n x1 x2 x3 x5 v → gqJ Q v (f_X5_countBySets_5 b  n x1 x2 x3 x5 v) → gG E m_X5_countBySets d Q 0 0 (rS v) 5 [(0, .ref (gX E + (b + 1))), (1, .int x1), (2, .int x2), (3, .long x3), (5, .int x5)] [] := by
  intro n
  induction n with
  | zero => intro x1 x2 x3 x5 v hp; exact hp.elim
  | succ n ih =>
    intro x1 x2 x3 x5 v hp hQ
    refine g_iload 4 dX5_countBySets_5 rfl ?_
    refine g_iconst dX5_countBySets_7 (1 : Int32) (by decide) ?_
    refine g_aload_n 0 dX5_countBySets_8 rfl ?_
    refine r_get (.int (v.1 (b + 1) 1)) f_X5_71_X5 rfl (kb_1 hb) (lt_b hb (by decide)) dX5_countBySets_9 (fun _ => rfl) ?_
    refine g_ishl dX5_countBySets_12 ?_
    refine g_icmp_ge 42 dX5_countBySets_13 (by decide) (fun h1 => ?_) (fun h1 => ?_)
    · have hQ := qp (P := gqJ Q v) h1 hQ
      have hp := hp.1 h1
      refine g_lload_n 3 dX5_countBySets_42 rfl ?_
      exact g_lret rfl dX5_countBySets_43 hQ
    · have hQ := qn (P := gqJ Q v) h1 hQ
      have hp := hp.2 h1
      refine g_aload_n 0 dX5_countBySets_16 rfl ?_
      refine g_iload 4 dX5_countBySets_17 rfl ?_
      obtain ⟨h2, hp⟩ := hp
      refine g_callV (rest := []) s_X5_90_X5 rfl (c_X5_lossOfSet (E := E) (d := d - 1) b hb (by omega) x5 v h2) (kb_1 hb) (lt_b hb (by decide)) rfl rfl (Nat.le_of_ble_eq_true rfl) (by omega) (by decide) (by decide) dX5_countBySets_19 (adV ?_) axN
      refine g_iload_n 1 dX5_countBySets_22 rfl ?_
      refine g_icmp_gt 36 dX5_countBySets_23 (by decide) (fun h3 => ?_) (fun h3 => ?_)
      · have hQ := qp (P := gqJ Q v) h3 hQ
        have hp := hp.1 h3
        exact w_X5_countBySets_36 b hb hd (fun x1 x2 x3 x5 v => f_X5_countBySets_5 b  n x1 x2 x3 x5 v) (fun x1 x2 x3 x5 v => p_X5_countBySets_5 b   n x1 x2 x3 x5 v) ih x1 x2 x3 x5 v hp hQ
      · have hQ := qn (P := gqJ Q v) h3 hQ
        have hp := hp.2 h3
        refine g_lload_n 3 dX5_countBySets_26 rfl ?_
        refine g_aload_n 0 dX5_countBySets_27 rfl ?_
        refine g_iload 4 dX5_countBySets_28 rfl ?_
        refine g_iload_n 2 dX5_countBySets_30 rfl ?_
        obtain ⟨h4, hp⟩ := hp
        refine g_callV (rest := [.long x3]) s_X5_94_X5 rfl (c_X5_waysOfSet (E := E) (d := d - 1) b hb (by omega) x5 x2 v h4) (kb_1 hb) (lt_b hb (by decide)) rfl rfl (Nat.le_of_ble_eq_true rfl) (by omega) (by decide) (by decide) dX5_countBySets_31 (adV ?_) axN
        refine g_ladd dX5_countBySets_34 ?_
        refine g_lstore_n [(3, .long (x3 + (f_X5_waysOfSet b x5 x2 v))), (0, .ref (gX E + (b + 1))), (1, .int x1), (2, .int x2), (5, .int x5)] dX5_countBySets_35 rfl (by decide) rfl ?_
        refine g_lv (lv' := [(0, .ref (gX E + (b + 1))), (1, .int x1), (2, .int x2), (3, .long (x3 + (f_X5_waysOfSet b x5 x2 v))), (5, .int x5)]) [1, 2, 3, 0, 4] rfl ?_
        exact w_X5_countBySets_36 b hb hd (fun x1 x2 x3 x5 v => f_X5_countBySets_5 b  n x1 x2 x3 x5 v) (fun x1 x2 x3 x5 v => p_X5_countBySets_5 b   n x1 x2 x3 x5 v) ih x1 x2 (x3 + (f_X5_waysOfSet b x5 x2 v)) x5 v hp hQ
def f_X5_countBySets_0 (b : Nat) (x1 : Int32) (x2 : Int32) (v : gV) : Int64 := f_X5_countBySets_5 b  5000 x1 x2 (0 : Int64) (0 : Int32) v
def p_X5_countBySets_0 (b : Nat) (x1 : Int32) (x2 : Int32) (v : gV) : Prop := p_X5_countBySets_5 b   5000 x1 x2 (0 : Int64) (0 : Int32) v
set_option maxHeartbeats 4000000 in
set_option maxRecDepth 100000 in
theorem w_X5_countBySets_0 {E : gE} {d : Nat} {Q : gO → gS → Prop} (b : Nat) (hb : isBk b) (hd : 2 ≤ d) (x1 : Int32) (x2 : Int32) (v : gV) (hp : p_X5_countBySets_0 b   x1 x2 v) (hQ : gqJ Q v (f_X5_countBySets_0 b  x1 x2 v)) : gG E m_X5_countBySets d Q 0 0 (rS v) 0 [(0, .ref (gX E + (b + 1))), (1, .int x1), (2, .int x2)] [] := by
  refine g_lconst dX5_countBySets_0 (0 : Int64) (by decide) ?_
  refine g_lstore_n [(3, .long ((0 : Int64))), (0, .ref (gX E + (b + 1))), (1, .int x1), (2, .int x2)] dX5_countBySets_1 rfl (by decide) rfl ?_
  refine g_iconst dX5_countBySets_2 (0 : Int32) (by decide) ?_
  refine g_istore [(5, .int ((0 : Int32))), (3, .long ((0 : Int64))), (0, .ref (gX E + (b + 1))), (1, .int x1), (2, .int x2)] dX5_countBySets_3 (by decide) rfl ?_
  refine g_lv (lv' := [(0, .ref (gX E + (b + 1))), (1, .int x1), (2, .int x2), (3, .long ((0 : Int64))), (5, .int ((0 : Int32)))]) [2, 3, 4, 1, 0] rfl ?_
  exact w_X5_countBySets_5 b hb hd    5000 x1 x2 (0 : Int64) (0 : Int32) v hp hQ
def f_X5_countBySets (b : Nat) (x1 : Int32) (x2 : Int32) (v : gV) : Int64 := f_X5_countBySets_0 b x1 x2 v
def p_X5_countBySets (b : Nat) (x1 : Int32) (x2 : Int32) (v : gV) : Prop := p_X5_countBySets_0 b x1 x2 v
theorem c_X5_countBySets {E : gE} {d : Nat} (b : Nat) (hb : isBk b) (hd : 2 ≤ d) (x1 : Int32) (x2 : Int32) (v : gV) (hp : p_X5_countBySets b x1 x2 v) : CT E m_X5_countBySets d 0 0 [.ref (gX E + (b + 1)), .int x1, .int x2] (rS v) (Cq (.inl (some (.long (f_X5_countBySets b x1 x2 v)))) v) := CT.of ok_X5_countBySets rfl (Nat.le_of_ble_eq_true rfl) (w_X5_countBySets_0 b hb hd x1 x2 v hp ⟨rfl, rfl⟩)
def f_X6_copyIds_P_27 (b : Nat) (b2 : Nat)  (v : gV) : gV := v
def p_X6_copyIds_P_27 (b : Nat) (b2 : Nat)  (v : gV) : Prop := True
set_option maxHeartbeats 4000000 in
set_option maxRecDepth 100000 in
theorem w_X6_copyIds_P_27 {E : gE} {d : Nat} {Q : gO → gS → Prop} (b : Nat) (b2 : Nat) (hb : isBk b) (hb2 : isBk b2) (hd : 3 ≤ d)  (v : gV) (hp : p_X6_copyIds_P_27 b b2    v) (hQ : gqV Q (f_X6_copyIds_P_27 b b2   v)) : gG E m_X6_copyIds d Q 0 0 (rS v) 27 [] [] := by
  exact g_vret rfl dX6_copyIds_27 hQ
def f_X6_copyIds_P_19 (b : Nat) (b2 : Nat)  (v : gV) : gV := f_X6_copyIds_P_27 b b2   (vM v (b + 1) 2 (v.1 (b2 + 1) 2))
def p_X6_copyIds_P_19 (b : Nat) (b2 : Nat)  (v : gV) : Prop := p_X6_copyIds_P_27 b b2    (vM v (b + 1) 2 (v.1 (b2 + 1) 2))
set_option maxHeartbeats 4000000 in
set_option maxRecDepth 100000 in
theorem w_X6_copyIds_P_19 {E : gE} {d : Nat} {Q : gO → gS → Prop} (b : Nat) (b2 : Nat) (hb : isBk b) (hb2 : isBk b2) (hd : 3 ≤ d)  (v : gV) (hp : p_X6_copyIds_P_19 b b2    v) (hQ : gqV Q (f_X6_copyIds_P_19 b b2   v)) : gG E m_X6_copyIds d Q 0 0 (rS v) 19 [(0, .ref (gX E + (b + 1))), (1, .ref (gX E + (b2 + 1)))] [] := by
  refine g_aload_n 0 dX6_copyIds_19 rfl ?_
  refine g_aload_n 1 dX6_copyIds_20 rfl ?_
  refine r_get (.int (v.1 (b2 + 1) 2)) f_X6_23_X5 rfl (kb_1 hb2) (lt_b hb2 (by decide)) dX6_copyIds_21 (fun _ => rfl) ?_
  refine r_put pf_X6_23_X5 rfl (kb_1 hb) (by decide) (by decide) rfl (lt_b hb (by decide)) rfl rfl dX6_copyIds_24 ?_
  refine g_lv (lv' := []) [] rfl ?_
  exact w_X6_copyIds_P_27 b b2 hb hb2 hd     (vM v (b + 1) 2 (v.1 (b2 + 1) 2)) hp hQ
def f_X6_copyIds_P_11 (b : Nat) (b2 : Nat)  (v : gV) : gV := f_X6_copyIds_P_19 b b2   (vM v (b + 1) 1 (v.1 (b2 + 1) 1))
def p_X6_copyIds_P_11 (b : Nat) (b2 : Nat)  (v : gV) : Prop := p_X6_copyIds_P_19 b b2    (vM v (b + 1) 1 (v.1 (b2 + 1) 1))
set_option maxHeartbeats 4000000 in
set_option maxRecDepth 100000 in
theorem w_X6_copyIds_P_11 {E : gE} {d : Nat} {Q : gO → gS → Prop} (b : Nat) (b2 : Nat) (hb : isBk b) (hb2 : isBk b2) (hd : 3 ≤ d)  (v : gV) (hp : p_X6_copyIds_P_11 b b2    v) (hQ : gqV Q (f_X6_copyIds_P_11 b b2   v)) : gG E m_X6_copyIds d Q 0 0 (rS v) 11 [(0, .ref (gX E + (b + 1))), (1, .ref (gX E + (b2 + 1)))] [] := by
  refine g_aload_n 0 dX6_copyIds_11 rfl ?_
  refine g_aload_n 1 dX6_copyIds_12 rfl ?_
  refine r_get (.int (v.1 (b2 + 1) 1)) f_X6_19_X5 rfl (kb_1 hb2) (lt_b hb2 (by decide)) dX6_copyIds_13 (fun _ => rfl) ?_
  refine r_put pf_X6_19_X5 rfl (kb_1 hb) (by decide) (by decide) rfl (lt_b hb (by decide)) rfl rfl dX6_copyIds_16 ?_
  exact w_X6_copyIds_P_19 b b2 hb hb2 hd     (vM v (b + 1) 1 (v.1 (b2 + 1) 1)) hp hQ
def f_X6_copyIds_P_0 (b : Nat) (b2 : Nat)  (v : gV) : gV := f_X6_copyIds_P_11 b b2   (f_X11_copyRow (b2 + 2) 8 (b + 2) 8 v)
def p_X6_copyIds_P_0 (b : Nat) (b2 : Nat)  (v : gV) : Prop := (p_X11_copyRow (b2 + 2) 8 (b + 2) 8 v) ∧ (p_X6_copyIds_P_11 b b2    (f_X11_copyRow (b2 + 2) 8 (b + 2) 8 v))
set_option maxHeartbeats 4000000 in
set_option maxRecDepth 100000 in
theorem w_X6_copyIds_P_0 {E : gE} {d : Nat} {Q : gO → gS → Prop} (b : Nat) (b2 : Nat) (hb : isBk b) (hb2 : isBk b2) (hd : 3 ≤ d)  (v : gV) (hp : p_X6_copyIds_P_0 b b2    v) (hQ : gqV Q (f_X6_copyIds_P_0 b b2   v)) : gG E m_X6_copyIds d Q 0 0 (rS v) 0 [(0, .ref (gX E + (b + 1))), (1, .ref (gX E + (b2 + 1)))] [] := by
  refine g_aload_n 1 dX6_copyIds_0 rfl ?_
  refine r_get (.ref (gX E + (b2 + 2))) f_X6_7_X5 rfl (kb_1 hb2) (lt_b hb2 (by decide)) dX6_copyIds_1 (fun _ => rfl) ?_
  refine g_aload_n 0 dX6_copyIds_4 rfl ?_
  refine r_get (.ref (gX E + (b + 2))) f_X6_7_X5 rfl (kb_1 hb) (lt_b hb (by decide)) dX6_copyIds_5 (fun _ => rfl) ?_
  obtain ⟨h1, hp⟩ := hp
  refine g_callN (rest := []) s_X6_13 rfl (c_X11_copyRow (E := E) (d := d - 1) (b2 + 2) 8 (b + 2) 8 (by decide) (kb_2 hb2) (lt_b hb2 (by decide)) (by decide) (kb_2 hb) (lt_b hb (by decide)) (by omega)  v h1) rfl rfl (Nat.le_of_ble_eq_true rfl) (by omega) (by decide) (by decide) dX6_copyIds_8 (adN ?_) axN
  exact w_X6_copyIds_P_11 b b2 hb hb2 hd     (f_X11_copyRow (b2 + 2) 8 (b + 2) 8 v) hp hQ
def f_X6_copyIds_P (b : Nat) (b2 : Nat)  (v : gV) : gV := f_X6_copyIds_P_0 b b2  v
def p_X6_copyIds_P (b : Nat) (b2 : Nat)  (v : gV) : Prop := p_X6_copyIds_P_0 b b2  v
theorem c_X6_copyIds_P {E : gE} {d : Nat} (b : Nat) (b2 : Nat) (hb : isBk b) (hb2 : isBk b2) (hd : 3 ≤ d)  (v : gV) (hp : p_X6_copyIds_P b b2  v) : CT E m_X6_copyIds d 0 0 [.ref (gX E + (b + 1)), .ref (gX E + (b2 + 1))] (rS v) (Cq (.inl none) (f_X6_copyIds_P b b2  v)) := CT.of ok_X6_copyIds rfl (Nat.le_of_ble_eq_true rfl) (w_X6_copyIds_P_0 b b2 hb hb2 hd  v hp ⟨rfl, rfl⟩)
def f_X6_copyIds_C_27 (b : Nat) (b2 : Nat)  (v : gV) : gV := v
def p_X6_copyIds_C_27 (b : Nat) (b2 : Nat)  (v : gV) : Prop := True
set_option maxHeartbeats 4000000 in
set_option maxRecDepth 100000 in
theorem w_X6_copyIds_C_27 {E : gE} {d : Nat} {Q : gO → gS → Prop} (b : Nat) (b2 : Nat) (hb : isBk b) (hb2 : isBk b2) (hd : 3 ≤ d)  (v : gV) (hp : p_X6_copyIds_C_27 b b2    v) (hQ : gqV Q (f_X6_copyIds_C_27 b b2   v)) : gG E m_X6_copyIds d Q 0 0 (rS v) 27 [] [] := by
  exact g_vret rfl dX6_copyIds_27 hQ
def f_X6_copyIds_C_19 (b : Nat) (b2 : Nat)  (v : gV) : gV := f_X6_copyIds_C_27 b b2   (vM v (b + 10) 2 (v.1 (b2 + 10) 2))
def p_X6_copyIds_C_19 (b : Nat) (b2 : Nat)  (v : gV) : Prop := p_X6_copyIds_C_27 b b2    (vM v (b + 10) 2 (v.1 (b2 + 10) 2))
set_option maxHeartbeats 4000000 in
set_option maxRecDepth 100000 in
theorem w_X6_copyIds_C_19 {E : gE} {d : Nat} {Q : gO → gS → Prop} (b : Nat) (b2 : Nat) (hb : isBk b) (hb2 : isBk b2) (hd : 3 ≤ d)  (v : gV) (hp : p_X6_copyIds_C_19 b b2    v) (hQ : gqV Q (f_X6_copyIds_C_19 b b2   v)) : gG E m_X6_copyIds d Q 0 0 (rS v) 19 [(0, .ref (gX E + (b + 10))), (1, .ref (gX E + (b2 + 10)))] [] := by
  refine g_aload_n 0 dX6_copyIds_19 rfl ?_
  refine g_aload_n 1 dX6_copyIds_20 rfl ?_
  refine r_get (.int (v.1 (b2 + 10) 2)) f_X6_23_X2 rfl (kb_10 hb2) (lt_b hb2 (by decide)) dX6_copyIds_21 (fun _ => rfl) ?_
  refine r_put pf_X6_23_X2 rfl (kb_10 hb) (by decide) (by decide) rfl (lt_b hb (by decide)) rfl rfl dX6_copyIds_24 ?_
  refine g_lv (lv' := []) [] rfl ?_
  exact w_X6_copyIds_C_27 b b2 hb hb2 hd     (vM v (b + 10) 2 (v.1 (b2 + 10) 2)) hp hQ
def f_X6_copyIds_C_11 (b : Nat) (b2 : Nat)  (v : gV) : gV := f_X6_copyIds_C_19 b b2   (vM v (b + 10) 1 (v.1 (b2 + 10) 1))
def p_X6_copyIds_C_11 (b : Nat) (b2 : Nat)  (v : gV) : Prop := p_X6_copyIds_C_19 b b2    (vM v (b + 10) 1 (v.1 (b2 + 10) 1))
set_option maxHeartbeats 4000000 in
set_option maxRecDepth 100000 in
theorem w_X6_copyIds_C_11 {E : gE} {d : Nat} {Q : gO → gS → Prop} (b : Nat) (b2 : Nat) (hb : isBk b) (hb2 : isBk b2) (hd : 3 ≤ d)  (v : gV) (hp : p_X6_copyIds_C_11 b b2    v) (hQ : gqV Q (f_X6_copyIds_C_11 b b2   v)) : gG E m_X6_copyIds d Q 0 0 (rS v) 11 [(0, .ref (gX E + (b + 10))), (1, .ref (gX E + (b2 + 10)))] [] := by
  refine g_aload_n 0 dX6_copyIds_11 rfl ?_
  refine g_aload_n 1 dX6_copyIds_12 rfl ?_
  refine r_get (.int (v.1 (b2 + 10) 1)) f_X6_19_X2 rfl (kb_10 hb2) (lt_b hb2 (by decide)) dX6_copyIds_13 (fun _ => rfl) ?_
  refine r_put pf_X6_19_X2 rfl (kb_10 hb) (by decide) (by decide) rfl (lt_b hb (by decide)) rfl rfl dX6_copyIds_16 ?_
  exact w_X6_copyIds_C_19 b b2 hb hb2 hd     (vM v (b + 10) 1 (v.1 (b2 + 10) 1)) hp hQ
def f_X6_copyIds_C_0 (b : Nat) (b2 : Nat)  (v : gV) : gV := f_X6_copyIds_C_11 b b2   (f_X11_copyRow (b2 + 11) 12 (b + 11) 12 v)
def p_X6_copyIds_C_0 (b : Nat) (b2 : Nat)  (v : gV) : Prop := (p_X11_copyRow (b2 + 11) 12 (b + 11) 12 v) ∧ (p_X6_copyIds_C_11 b b2    (f_X11_copyRow (b2 + 11) 12 (b + 11) 12 v))
set_option maxHeartbeats 4000000 in
set_option maxRecDepth 100000 in
theorem w_X6_copyIds_C_0 {E : gE} {d : Nat} {Q : gO → gS → Prop} (b : Nat) (b2 : Nat) (hb : isBk b) (hb2 : isBk b2) (hd : 3 ≤ d)  (v : gV) (hp : p_X6_copyIds_C_0 b b2    v) (hQ : gqV Q (f_X6_copyIds_C_0 b b2   v)) : gG E m_X6_copyIds d Q 0 0 (rS v) 0 [(0, .ref (gX E + (b + 10))), (1, .ref (gX E + (b2 + 10)))] [] := by
  refine g_aload_n 1 dX6_copyIds_0 rfl ?_
  refine r_get (.ref (gX E + (b2 + 11))) f_X6_7_X2 rfl (kb_10 hb2) (lt_b hb2 (by decide)) dX6_copyIds_1 (fun _ => rfl) ?_
  refine g_aload_n 0 dX6_copyIds_4 rfl ?_
  refine r_get (.ref (gX E + (b + 11))) f_X6_7_X2 rfl (kb_10 hb) (lt_b hb (by decide)) dX6_copyIds_5 (fun _ => rfl) ?_
  obtain ⟨h1, hp⟩ := hp
  refine g_callN (rest := []) s_X6_13 rfl (c_X11_copyRow (E := E) (d := d - 1) (b2 + 11) 12 (b + 11) 12 (by decide) (kb_11 hb2) (lt_b hb2 (by decide)) (by decide) (kb_11 hb) (lt_b hb (by decide)) (by omega)  v h1) rfl rfl (Nat.le_of_ble_eq_true rfl) (by omega) (by decide) (by decide) dX6_copyIds_8 (adN ?_) axN
  exact w_X6_copyIds_C_11 b b2 hb hb2 hd     (f_X11_copyRow (b2 + 11) 12 (b + 11) 12 v) hp hQ
def f_X6_copyIds_C (b : Nat) (b2 : Nat)  (v : gV) : gV := f_X6_copyIds_C_0 b b2  v
def p_X6_copyIds_C (b : Nat) (b2 : Nat)  (v : gV) : Prop := p_X6_copyIds_C_0 b b2  v
theorem c_X6_copyIds_C {E : gE} {d : Nat} (b : Nat) (b2 : Nat) (hb : isBk b) (hb2 : isBk b2) (hd : 3 ≤ d)  (v : gV) (hp : p_X6_copyIds_C b b2  v) : CT E m_X6_copyIds d 0 0 [.ref (gX E + (b + 10)), .ref (gX E + (b2 + 10))] (rS v) (Cq (.inl none) (f_X6_copyIds_C b b2  v)) := CT.of ok_X6_copyIds rfl (Nat.le_of_ble_eq_true rfl) (w_X6_copyIds_C_0 b b2 hb hb2 hd  v hp ⟨rfl, rfl⟩)
def f_X6_placeOf_P_0 (b : Nat) (x1 : Int32) (v : gV) : Int32 ⊕ String := if 0 ≤ (f_X11_find (b + 2) 8 (v.1 (b + 1) 1) x1 v) then (Sum.inl (f_X11_find (b + 2) 8 (v.1 (b + 1) 1) x1 v)) else (Sum.inr "java/util/NoSuchElementException")
def p_X6_placeOf_P_0 (b : Nat) (x1 : Int32) (v : gV) : Prop := (p_X11_find (b + 2) 8 (v.1 (b + 1) 1) x1 v) ∧ (((0 ≤ (f_X11_find (b + 2) 8 (v.1 (b + 1) 1) x1 v)) → (True)) ∧ (¬ (0 ≤ (f_X11_find (b + 2) 8 (v.1 (b + 1) 1) x1 v)) → (True)))
set_option maxHeartbeats 4000000 in
set_option maxRecDepth 100000 in
theorem w_X6_placeOf_P_0 {E : gE} {d : Nat} {Q : gO → gS → Prop} (b : Nat) (hb : isBk b) (hd : 7 ≤ d) (x1 : Int32) (v : gV) (hp : p_X6_placeOf_P_0 b   x1 v) (hQ : gqTI Q v (f_X6_placeOf_P_0 b  x1 v)) : gG E m_X6_placeOf d Q 1 6 (rS v) 0 [(0, .ref (gX E + (b + 1))), (1, .int x1)] [] := by
  refine g_aload_n 0 dX6_placeOf_0 rfl ?_
  refine r_get (.ref (gX E + (b + 2))) f_X6_7_X5 rfl (kb_1 hb) (lt_b hb (by decide)) dX6_placeOf_1 (fun _ => rfl) ?_
  refine g_aload_n 0 dX6_placeOf_4 rfl ?_
  refine r_get (.int (v.1 (b + 1) 1)) f_X6_19_X5 rfl (kb_1 hb) (lt_b hb (by decide)) dX6_placeOf_5 (fun _ => rfl) ?_
  refine g_iload_n 1 dX6_placeOf_8 rfl ?_
  obtain ⟨h1, hp⟩ := hp
  refine g_callN (rest := []) s_X6_26 rfl (c_X11_find (E := E) (d := d - 1) (b + 2) 8 (by decide) (kb_2 hb) (lt_b hb (by decide)) (by omega) (v.1 (b + 1) 1) x1 v h1) rfl rfl (Nat.le_of_ble_eq_true rfl) (by omega) (by decide) (by decide) dX6_placeOf_9 (adV ?_) axN
  refine g_istore_n [(2, .int ((f_X11_find (b + 2) 8 (v.1 (b + 1) 1) x1 v))), (0, .ref (gX E + (b + 1))), (1, .int x1)] dX6_placeOf_12 rfl (by decide) rfl ?_
  refine g_iload_n 0 dX6_placeOf_13 rfl ?_
  refine g_if_ge 27 dX6_placeOf_14 (by decide) (fun h2 => ?_) (fun h2 => ?_)
  · have hQ := qp (P := gqTI Q v) h2 hQ
    have hp := hp.1 h2
    refine g_iload_n 0 dX6_placeOf_27 rfl ?_
    exact g_iret rfl dX6_placeOf_28 hQ
  · have hQ := qn (P := gqTI Q v) h2 hQ
    have hp := hp.2 h2
    exact g_throwN rfl t_X6_30_32 rfl rfl rfl (by omega) (by decide) (by decide) (Nat.le_of_ble_eq_true rfl) dX6_placeOf_17 dX6_placeOf_20 dX6_placeOf_21 dX6_placeOf_23 dX6_placeOf_26 hQ
def f_X6_placeOf_P (b : Nat) (x1 : Int32) (v : gV) : Int32 ⊕ String := f_X6_placeOf_P_0 b x1 v
def p_X6_placeOf_P (b : Nat) (x1 : Int32) (v : gV) : Prop := p_X6_placeOf_P_0 b x1 v
theorem c_X6_placeOf_P {E : gE} {d : Nat} (b : Nat) (hb : isBk b) (hd : 7 ≤ d) (x1 : Int32) (v : gV) (hp : p_X6_placeOf_P b x1 v) : CT E m_X6_placeOf d 1 6 [.ref (gX E + (b + 1)), .int x1] (rS v) (Cq (gOi (f_X6_placeOf_P b x1 v)) v) := CT.of ok_X6_placeOf rfl (Nat.le_of_ble_eq_true rfl) (w_X6_placeOf_P_0 b hb hd x1 v hp ⟨rfl, rfl⟩)
def f_X6_placeOf_C_0 (b : Nat) (x1 : Int32) (v : gV) : Int32 ⊕ String := if 0 ≤ (f_X11_find (b + 11) 12 (v.1 (b + 10) 1) x1 v) then (Sum.inl (f_X11_find (b + 11) 12 (v.1 (b + 10) 1) x1 v)) else (Sum.inr "java/util/NoSuchElementException")
def p_X6_placeOf_C_0 (b : Nat) (x1 : Int32) (v : gV) : Prop := (p_X11_find (b + 11) 12 (v.1 (b + 10) 1) x1 v) ∧ (((0 ≤ (f_X11_find (b + 11) 12 (v.1 (b + 10) 1) x1 v)) → (True)) ∧ (¬ (0 ≤ (f_X11_find (b + 11) 12 (v.1 (b + 10) 1) x1 v)) → (True)))
set_option maxHeartbeats 4000000 in
set_option maxRecDepth 100000 in
theorem w_X6_placeOf_C_0 {E : gE} {d : Nat} {Q : gO → gS → Prop} (b : Nat) (hb : isBk b) (hd : 7 ≤ d) (x1 : Int32) (v : gV) (hp : p_X6_placeOf_C_0 b   x1 v) (hQ : gqTI Q v (f_X6_placeOf_C_0 b  x1 v)) : gG E m_X6_placeOf d Q 1 6 (rS v) 0 [(0, .ref (gX E + (b + 10))), (1, .int x1)] [] := by
  refine g_aload_n 0 dX6_placeOf_0 rfl ?_
  refine r_get (.ref (gX E + (b + 11))) f_X6_7_X2 rfl (kb_10 hb) (lt_b hb (by decide)) dX6_placeOf_1 (fun _ => rfl) ?_
  refine g_aload_n 0 dX6_placeOf_4 rfl ?_
  refine r_get (.int (v.1 (b + 10) 1)) f_X6_19_X2 rfl (kb_10 hb) (lt_b hb (by decide)) dX6_placeOf_5 (fun _ => rfl) ?_
  refine g_iload_n 1 dX6_placeOf_8 rfl ?_
  obtain ⟨h1, hp⟩ := hp
  refine g_callN (rest := []) s_X6_26 rfl (c_X11_find (E := E) (d := d - 1) (b + 11) 12 (by decide) (kb_11 hb) (lt_b hb (by decide)) (by omega) (v.1 (b + 10) 1) x1 v h1) rfl rfl (Nat.le_of_ble_eq_true rfl) (by omega) (by decide) (by decide) dX6_placeOf_9 (adV ?_) axN
  refine g_istore_n [(2, .int ((f_X11_find (b + 11) 12 (v.1 (b + 10) 1) x1 v))), (0, .ref (gX E + (b + 10))), (1, .int x1)] dX6_placeOf_12 rfl (by decide) rfl ?_
  refine g_iload_n 0 dX6_placeOf_13 rfl ?_
  refine g_if_ge 27 dX6_placeOf_14 (by decide) (fun h2 => ?_) (fun h2 => ?_)
  · have hQ := qp (P := gqTI Q v) h2 hQ
    have hp := hp.1 h2
    refine g_iload_n 0 dX6_placeOf_27 rfl ?_
    exact g_iret rfl dX6_placeOf_28 hQ
  · have hQ := qn (P := gqTI Q v) h2 hQ
    have hp := hp.2 h2
    exact g_throwN rfl t_X6_30_32 rfl rfl rfl (by omega) (by decide) (by decide) (Nat.le_of_ble_eq_true rfl) dX6_placeOf_17 dX6_placeOf_20 dX6_placeOf_21 dX6_placeOf_23 dX6_placeOf_26 hQ
def f_X6_placeOf_C (b : Nat) (x1 : Int32) (v : gV) : Int32 ⊕ String := f_X6_placeOf_C_0 b x1 v
def p_X6_placeOf_C (b : Nat) (x1 : Int32) (v : gV) : Prop := p_X6_placeOf_C_0 b x1 v
theorem c_X6_placeOf_C {E : gE} {d : Nat} (b : Nat) (hb : isBk b) (hd : 7 ≤ d) (x1 : Int32) (v : gV) (hp : p_X6_placeOf_C b x1 v) : CT E m_X6_placeOf d 1 6 [.ref (gX E + (b + 10)), .int x1] (rS v) (Cq (gOi (f_X6_placeOf_C b x1 v)) v) := CT.of ok_X6_placeOf rfl (Nat.le_of_ble_eq_true rfl) (w_X6_placeOf_C_0 b hb hd x1 v hp ⟨rfl, rfl⟩)
def f_X6_takePlace_P_43 (b : Nat) (x1 : Int32) (v : gV) : (Int32 ⊕ String) × gV := (Sum.inl x1, v)
def p_X6_takePlace_P_43 (b : Nat) (x1 : Int32) (v : gV) : Prop := True
set_option maxHeartbeats 4000000 in
set_option maxRecDepth 100000 in
theorem w_X6_takePlace_P_43 {E : gE} {d : Nat} {Q : gO → gS → Prop} (b : Nat) (hb : isBk b) (hd : 8 ≤ d) (x1 : Int32) (v : gV) (hp : p_X6_takePlace_P_43 b   x1 v) (hQ : gqTIV Q (f_X6_takePlace_P_43 b  x1 v)) : gG E m_X6_takePlace d Q 0 0 (rS v) 43 [(1, .int x1)] [] := by
  refine g_iload_n 0 dX6_takePlace_43 rfl ?_
  exact g_iret rfl dX6_takePlace_44 hQ
def f_X6_takePlace_P_33 (b : Nat) (x1 : Int32) (v : gV) : (Int32 ⊕ String) × gV := f_X6_takePlace_P_43 b  x1 (vM v (b + 1) 1 ((v.1 (b + 1) 1) + (1 : Int32)))
def p_X6_takePlace_P_33 (b : Nat) (x1 : Int32) (v : gV) : Prop := p_X6_takePlace_P_43 b   x1 (vM v (b + 1) 1 ((v.1 (b + 1) 1) + (1 : Int32)))
set_option maxHeartbeats 4000000 in
set_option maxRecDepth 100000 in
theorem w_X6_takePlace_P_33 {E : gE} {d : Nat} {Q : gO → gS → Prop} (b : Nat) (hb : isBk b) (hd : 8 ≤ d) (x1 : Int32) (v : gV) (hp : p_X6_takePlace_P_33 b   x1 v) (hQ : gqTIV Q (f_X6_takePlace_P_33 b  x1 v)) : gG E m_X6_takePlace d Q 0 0 (rS v) 33 [(0, .ref (gX E + (b + 1))), (1, .int x1)] [] := by
  refine g_aload_n 0 dX6_takePlace_33 rfl ?_
  refine g_dup dX6_takePlace_34 rfl ?_
  refine r_get (.int (v.1 (b + 1) 1)) f_X6_19_X5 rfl (kb_1 hb) (lt_b hb (by decide)) dX6_takePlace_35 (fun _ => rfl) ?_
  refine g_iconst dX6_takePlace_38 (1 : Int32) (by decide) ?_
  refine g_iadd dX6_takePlace_39 ?_
  refine r_put pf_X6_19_X5 rfl (kb_1 hb) (by decide) (by decide) rfl (lt_b hb (by decide)) rfl rfl dX6_takePlace_40 ?_
  refine g_lv (lv' := [(1, .int x1)]) [1] rfl ?_
  exact w_X6_takePlace_P_43 b hb hd    x1 (vM v (b + 1) 1 ((v.1 (b + 1) 1) + (1 : Int32))) hp hQ
def f_X6_takePlace_P_23 (b : Nat) (x1 : Int32) (v : gV) : (Int32 ⊕ String) × gV := f_X6_takePlace_P_33 b  x1 (vM v (b + 1) 2 ((v.1 (b + 1) 2) + (1 : Int32)))
def p_X6_takePlace_P_23 (b : Nat) (x1 : Int32) (v : gV) : Prop := p_X6_takePlace_P_33 b   x1 (vM v (b + 1) 2 ((v.1 (b + 1) 2) + (1 : Int32)))
set_option maxHeartbeats 4000000 in
set_option maxRecDepth 100000 in
theorem w_X6_takePlace_P_23 {E : gE} {d : Nat} {Q : gO → gS → Prop} (b : Nat) (hb : isBk b) (hd : 8 ≤ d) (x1 : Int32) (v : gV) (hp : p_X6_takePlace_P_23 b   x1 v) (hQ : gqTIV Q (f_X6_takePlace_P_23 b  x1 v)) : gG E m_X6_takePlace d Q 0 0 (rS v) 23 [(0, .ref (gX E + (b + 1))), (1, .int x1)] [] := by
  refine g_aload_n 0 dX6_takePlace_23 rfl ?_
  refine g_dup dX6_takePlace_24 rfl ?_
  refine r_get (.int (v.1 (b + 1) 2)) f_X6_23_X5 rfl (kb_1 hb) (lt_b hb (by decide)) dX6_takePlace_25 (fun _ => rfl) ?_
  refine g_iconst dX6_takePlace_28 (1 : Int32) (by decide) ?_
  refine g_iadd dX6_takePlace_29 ?_
  refine r_put pf_X6_23_X5 rfl (kb_1 hb) (by decide) (by decide) rfl (lt_b hb (by decide)) rfl rfl dX6_takePlace_30 ?_
  exact w_X6_takePlace_P_33 b hb hd    x1 (vM v (b + 1) 2 ((v.1 (b + 1) 2) + (1 : Int32))) hp hQ
def f_X6_takePlace_P_12 (b : Nat) (s0 : Int32) (v : gV) : (Int32 ⊕ String) × gV := f_X6_takePlace_P_23 b  s0 (vM v (b + 2) s0.toNatClampNeg (v.1 (b + 1) 2))
def p_X6_takePlace_P_12 (b : Nat) (s0 : Int32) (v : gV) : Prop := (vp_in s0 8) ∧ (p_X6_takePlace_P_23 b   s0 (vM v (b + 2) s0.toNatClampNeg (v.1 (b + 1) 2)))
set_option maxHeartbeats 4000000 in
set_option maxRecDepth 100000 in
theorem w_X6_takePlace_P_12 {E : gE} {d : Nat} {Q : gO → gS → Prop} (b : Nat) (hb : isBk b) (hd : 8 ≤ d) (s0 : Int32) (v : gV) (hp : p_X6_takePlace_P_12 b   s0 v) (hQ : gqTIV Q (f_X6_takePlace_P_12 b  s0 v)) : gG E m_X6_takePlace d Q 0 0 (rS v) 12 [(0, .ref (gX E + (b + 1)))] [.int s0] := by
  refine g_istore_n [(1, .int s0), (0, .ref (gX E + (b + 1)))] dX6_takePlace_12 rfl (by decide) rfl ?_
  refine g_aload_n 1 dX6_takePlace_13 rfl ?_
  refine r_get (.ref (gX E + (b + 2))) f_X6_7_X5 rfl (kb_1 hb) (lt_b hb (by decide)) dX6_takePlace_14 (fun _ => rfl) ?_
  refine g_iload_n 0 dX6_takePlace_17 rfl ?_
  refine g_aload_n 1 dX6_takePlace_18 rfl ?_
  refine r_get (.int (v.1 (b + 1) 2)) f_X6_23_X5 rfl (kb_1 hb) (lt_b hb (by decide)) dX6_takePlace_19 (fun _ => rfl) ?_
  obtain ⟨h4, hp⟩ := hp
  refine r_iast (kb_2 hb) (lt_b hb (by decide)) h4 dX6_takePlace_22 ?_
  refine g_lv (lv' := [(0, .ref (gX E + (b + 1))), (1, .int s0)]) [1, 0] rfl ?_
  exact w_X6_takePlace_P_23 b hb hd    s0 (vM v (b + 2) s0.toNatClampNeg (v.1 (b + 1) 2)) hp hQ
def f_X6_takePlace_P_0 (b : Nat)  (v : gV) : (Int32 ⊕ String) × gV := Sum.elim (fun (sr2 : Int32) => f_X6_takePlace_P_12 b  sr2 v) (fun (e : String) => (Sum.inr e, v)) (f_X11_freePlace (v.1 (b + 1) 1) (nI 8) v)
def p_X6_takePlace_P_0 (b : Nat)  (v : gV) : Prop := (p_X11_freePlace (v.1 (b + 1) 1) (nI 8) v) ∧ (∀ (sr2 : Int32), (f_X11_freePlace (v.1 (b + 1) 1) (nI 8) v) = Sum.inl sr2 → (p_X6_takePlace_P_12 b   sr2 v))
set_option maxHeartbeats 4000000 in
set_option maxRecDepth 100000 in
theorem w_X6_takePlace_P_0 {E : gE} {d : Nat} {Q : gO → gS → Prop} (b : Nat) (hb : isBk b) (hd : 8 ≤ d)  (v : gV) (hp : p_X6_takePlace_P_0 b    v) (hQ : gqTIV Q (f_X6_takePlace_P_0 b   v)) : gG E m_X6_takePlace d Q 1 6 (rS v) 0 [(0, .ref (gX E + (b + 1)))] [] := by
  refine g_aload_n 0 dX6_takePlace_0 rfl ?_
  refine r_get (.int (v.1 (b + 1) 1)) f_X6_19_X5 rfl (kb_1 hb) (lt_b hb (by decide)) dX6_takePlace_1 (fun _ => rfl) ?_
  refine g_aload_n 0 dX6_takePlace_4 rfl ?_
  refine r_get (.ref (gX E + (b + 2))) f_X6_7_X5 rfl (kb_1 hb) (lt_b hb (by decide)) dX6_takePlace_5 (fun _ => rfl) ?_
  refine g_alen (nI 8) (kb_2 hb) (by decide) (lt_b hb (by decide)) rfl dX6_takePlace_8 ?_
  obtain ⟨h1, hp⟩ := hp
  refine g_callN (rest := []) s_X6_37 rfl (c_X11_freePlace (E := E) (d := d - 1)   (by omega) (v.1 (b + 1) 1) (nI 8) v h1) rfl rfl (Nat.le_of_ble_eq_true rfl) (by omega) (by decide) (by decide) dX6_takePlace_9 (adTI (fun sr2 h3 => ?_)) (axTI (fun e h3 => g_outs rfl rfl (qe (P := gqTIV Q) h3 hQ)))
  have hQ := ql (P := gqTIV Q) h3 hQ
  have hp := hp sr2 h3
  exact w_X6_takePlace_P_12 b hb hd    sr2 v hp hQ
def f_X6_takePlace_P (b : Nat)  (v : gV) : (Int32 ⊕ String) × gV := f_X6_takePlace_P_0 b  v
def p_X6_takePlace_P (b : Nat)  (v : gV) : Prop := p_X6_takePlace_P_0 b  v
theorem c_X6_takePlace_P {E : gE} {d : Nat} (b : Nat) (hb : isBk b) (hd : 8 ≤ d)  (v : gV) (hp : p_X6_takePlace_P b  v) : CT E m_X6_takePlace d 1 6 [.ref (gX E + (b + 1))] (rS v) (Cq (gOi (f_X6_takePlace_P b  v).1) (f_X6_takePlace_P b  v).2) := CT.of ok_X6_takePlace rfl (Nat.le_of_ble_eq_true rfl) (w_X6_takePlace_P_0 b hb hd  v hp ⟨rfl, rfl⟩)
def f_X6_takePlace_C_43 (b : Nat) (x1 : Int32) (v : gV) : (Int32 ⊕ String) × gV := (Sum.inl x1, v)
def p_X6_takePlace_C_43 (b : Nat) (x1 : Int32) (v : gV) : Prop := True
set_option maxHeartbeats 4000000 in
set_option maxRecDepth 100000 in
theorem w_X6_takePlace_C_43 {E : gE} {d : Nat} {Q : gO → gS → Prop} (b : Nat) (hb : isBk b) (hd : 8 ≤ d) (x1 : Int32) (v : gV) (hp : p_X6_takePlace_C_43 b   x1 v) (hQ : gqTIV Q (f_X6_takePlace_C_43 b  x1 v)) : gG E m_X6_takePlace d Q 0 0 (rS v) 43 [(1, .int x1)] [] := by
  refine g_iload_n 0 dX6_takePlace_43 rfl ?_
  exact g_iret rfl dX6_takePlace_44 hQ
def f_X6_takePlace_C_33 (b : Nat) (x1 : Int32) (v : gV) : (Int32 ⊕ String) × gV := f_X6_takePlace_C_43 b  x1 (vM v (b + 10) 1 ((v.1 (b + 10) 1) + (1 : Int32)))
def p_X6_takePlace_C_33 (b : Nat) (x1 : Int32) (v : gV) : Prop := p_X6_takePlace_C_43 b   x1 (vM v (b + 10) 1 ((v.1 (b + 10) 1) + (1 : Int32)))
set_option maxHeartbeats 4000000 in
set_option maxRecDepth 100000 in
theorem w_X6_takePlace_C_33 {E : gE} {d : Nat} {Q : gO → gS → Prop} (b : Nat) (hb : isBk b) (hd : 8 ≤ d) (x1 : Int32) (v : gV) (hp : p_X6_takePlace_C_33 b   x1 v) (hQ : gqTIV Q (f_X6_takePlace_C_33 b  x1 v)) : gG E m_X6_takePlace d Q 0 0 (rS v) 33 [(0, .ref (gX E + (b + 10))), (1, .int x1)] [] := by
  refine g_aload_n 0 dX6_takePlace_33 rfl ?_
  refine g_dup dX6_takePlace_34 rfl ?_
  refine r_get (.int (v.1 (b + 10) 1)) f_X6_19_X2 rfl (kb_10 hb) (lt_b hb (by decide)) dX6_takePlace_35 (fun _ => rfl) ?_
  refine g_iconst dX6_takePlace_38 (1 : Int32) (by decide) ?_
  refine g_iadd dX6_takePlace_39 ?_
  refine r_put pf_X6_19_X2 rfl (kb_10 hb) (by decide) (by decide) rfl (lt_b hb (by decide)) rfl rfl dX6_takePlace_40 ?_
  refine g_lv (lv' := [(1, .int x1)]) [1] rfl ?_
  exact w_X6_takePlace_C_43 b hb hd    x1 (vM v (b + 10) 1 ((v.1 (b + 10) 1) + (1 : Int32))) hp hQ
def f_X6_takePlace_C_23 (b : Nat) (x1 : Int32) (v : gV) : (Int32 ⊕ String) × gV := f_X6_takePlace_C_33 b  x1 (vM v (b + 10) 2 ((v.1 (b + 10) 2) + (1 : Int32)))
def p_X6_takePlace_C_23 (b : Nat) (x1 : Int32) (v : gV) : Prop := p_X6_takePlace_C_33 b   x1 (vM v (b + 10) 2 ((v.1 (b + 10) 2) + (1 : Int32)))
set_option maxHeartbeats 4000000 in
set_option maxRecDepth 100000 in
theorem w_X6_takePlace_C_23 {E : gE} {d : Nat} {Q : gO → gS → Prop} (b : Nat) (hb : isBk b) (hd : 8 ≤ d) (x1 : Int32) (v : gV) (hp : p_X6_takePlace_C_23 b   x1 v) (hQ : gqTIV Q (f_X6_takePlace_C_23 b  x1 v)) : gG E m_X6_takePlace d Q 0 0 (rS v) 23 [(0, .ref (gX E + (b + 10))), (1, .int x1)] [] := by
  refine g_aload_n 0 dX6_takePlace_23 rfl ?_
  refine g_dup dX6_takePlace_24 rfl ?_
  refine r_get (.int (v.1 (b + 10) 2)) f_X6_23_X2 rfl (kb_10 hb) (lt_b hb (by decide)) dX6_takePlace_25 (fun _ => rfl) ?_
  refine g_iconst dX6_takePlace_28 (1 : Int32) (by decide) ?_
  refine g_iadd dX6_takePlace_29 ?_
  refine r_put pf_X6_23_X2 rfl (kb_10 hb) (by decide) (by decide) rfl (lt_b hb (by decide)) rfl rfl dX6_takePlace_30 ?_
  exact w_X6_takePlace_C_33 b hb hd    x1 (vM v (b + 10) 2 ((v.1 (b + 10) 2) + (1 : Int32))) hp hQ
def f_X6_takePlace_C_12 (b : Nat) (s0 : Int32) (v : gV) : (Int32 ⊕ String) × gV := f_X6_takePlace_C_23 b  s0 (vM v (b + 11) s0.toNatClampNeg (v.1 (b + 10) 2))
def p_X6_takePlace_C_12 (b : Nat) (s0 : Int32) (v : gV) : Prop := (vp_in s0 12) ∧ (p_X6_takePlace_C_23 b   s0 (vM v (b + 11) s0.toNatClampNeg (v.1 (b + 10) 2)))
set_option maxHeartbeats 4000000 in
set_option maxRecDepth 100000 in
theorem w_X6_takePlace_C_12 {E : gE} {d : Nat} {Q : gO → gS → Prop} (b : Nat) (hb : isBk b) (hd : 8 ≤ d) (s0 : Int32) (v : gV) (hp : p_X6_takePlace_C_12 b   s0 v) (hQ : gqTIV Q (f_X6_takePlace_C_12 b  s0 v)) : gG E m_X6_takePlace d Q 0 0 (rS v) 12 [(0, .ref (gX E + (b + 10)))] [.int s0] := by
  refine g_istore_n [(1, .int s0), (0, .ref (gX E + (b + 10)))] dX6_takePlace_12 rfl (by decide) rfl ?_
  refine g_aload_n 1 dX6_takePlace_13 rfl ?_
  refine r_get (.ref (gX E + (b + 11))) f_X6_7_X2 rfl (kb_10 hb) (lt_b hb (by decide)) dX6_takePlace_14 (fun _ => rfl) ?_
  refine g_iload_n 0 dX6_takePlace_17 rfl ?_
  refine g_aload_n 1 dX6_takePlace_18 rfl ?_
  refine r_get (.int (v.1 (b + 10) 2)) f_X6_23_X2 rfl (kb_10 hb) (lt_b hb (by decide)) dX6_takePlace_19 (fun _ => rfl) ?_
  obtain ⟨h4, hp⟩ := hp
  refine r_iast (kb_11 hb) (lt_b hb (by decide)) h4 dX6_takePlace_22 ?_
  refine g_lv (lv' := [(0, .ref (gX E + (b + 10))), (1, .int s0)]) [1, 0] rfl ?_
  exact w_X6_takePlace_C_23 b hb hd    s0 (vM v (b + 11) s0.toNatClampNeg (v.1 (b + 10) 2)) hp hQ
def f_X6_takePlace_C_0 (b : Nat)  (v : gV) : (Int32 ⊕ String) × gV := Sum.elim (fun (sr2 : Int32) => f_X6_takePlace_C_12 b  sr2 v) (fun (e : String) => (Sum.inr e, v)) (f_X11_freePlace (v.1 (b + 10) 1) (nI 12) v)
def p_X6_takePlace_C_0 (b : Nat)  (v : gV) : Prop := (p_X11_freePlace (v.1 (b + 10) 1) (nI 12) v) ∧ (∀ (sr2 : Int32), (f_X11_freePlace (v.1 (b + 10) 1) (nI 12) v) = Sum.inl sr2 → (p_X6_takePlace_C_12 b   sr2 v))
set_option maxHeartbeats 4000000 in
set_option maxRecDepth 100000 in
theorem w_X6_takePlace_C_0 {E : gE} {d : Nat} {Q : gO → gS → Prop} (b : Nat) (hb : isBk b) (hd : 8 ≤ d)  (v : gV) (hp : p_X6_takePlace_C_0 b    v) (hQ : gqTIV Q (f_X6_takePlace_C_0 b   v)) : gG E m_X6_takePlace d Q 1 6 (rS v) 0 [(0, .ref (gX E + (b + 10)))] [] := by
  refine g_aload_n 0 dX6_takePlace_0 rfl ?_
  refine r_get (.int (v.1 (b + 10) 1)) f_X6_19_X2 rfl (kb_10 hb) (lt_b hb (by decide)) dX6_takePlace_1 (fun _ => rfl) ?_
  refine g_aload_n 0 dX6_takePlace_4 rfl ?_
  refine r_get (.ref (gX E + (b + 11))) f_X6_7_X2 rfl (kb_10 hb) (lt_b hb (by decide)) dX6_takePlace_5 (fun _ => rfl) ?_
  refine g_alen (nI 12) (kb_11 hb) (by decide) (lt_b hb (by decide)) rfl dX6_takePlace_8 ?_
  obtain ⟨h1, hp⟩ := hp
  refine g_callN (rest := []) s_X6_37 rfl (c_X11_freePlace (E := E) (d := d - 1)   (by omega) (v.1 (b + 10) 1) (nI 12) v h1) rfl rfl (Nat.le_of_ble_eq_true rfl) (by omega) (by decide) (by decide) dX6_takePlace_9 (adTI (fun sr2 h3 => ?_)) (axTI (fun e h3 => g_outs rfl rfl (qe (P := gqTIV Q) h3 hQ)))
  have hQ := ql (P := gqTIV Q) h3 hQ
  have hp := hp sr2 h3
  exact w_X6_takePlace_C_12 b hb hd    sr2 v hp hQ
def f_X6_takePlace_C (b : Nat)  (v : gV) : (Int32 ⊕ String) × gV := f_X6_takePlace_C_0 b  v
def p_X6_takePlace_C (b : Nat)  (v : gV) : Prop := p_X6_takePlace_C_0 b  v
theorem c_X6_takePlace_C {E : gE} {d : Nat} (b : Nat) (hb : isBk b) (hd : 8 ≤ d)  (v : gV) (hp : p_X6_takePlace_C b  v) : CT E m_X6_takePlace d 1 6 [.ref (gX E + (b + 10))] (rS v) (Cq (gOi (f_X6_takePlace_C b  v).1) (f_X6_takePlace_C b  v).2) := CT.of ok_X6_takePlace rfl (Nat.le_of_ble_eq_true rfl) (w_X6_takePlace_C_0 b hb hd  v hp ⟨rfl, rfl⟩)
def f_X6_removeId_P_18 (b : Nat)  (v : gV) : gV := v
def p_X6_removeId_P_18 (b : Nat)  (v : gV) : Prop := True
set_option maxHeartbeats 4000000 in
set_option maxRecDepth 100000 in
theorem w_X6_removeId_P_18 {E : gE} {d : Nat} {Q : gO → gS → Prop} (b : Nat) (hb : isBk b) (hd : 1 ≤ d)  (v : gV) (hp : p_X6_removeId_P_18 b    v) (hQ : gqV Q (f_X6_removeId_P_18 b   v)) : gG E m_X6_removeId d Q 0 0 (rS v) 18 [] [] := by
  exact g_vret rfl dX6_removeId_18 hQ
def f_X6_removeId_P_8 (b : Nat)  (v : gV) : gV := f_X6_removeId_P_18 b   (vM v (b + 1) 1 ((v.1 (b + 1) 1) - (1 : Int32)))
def p_X6_removeId_P_8 (b : Nat)  (v : gV) : Prop := p_X6_removeId_P_18 b    (vM v (b + 1) 1 ((v.1 (b + 1) 1) - (1 : Int32)))
set_option maxHeartbeats 4000000 in
set_option maxRecDepth 100000 in
theorem w_X6_removeId_P_8 {E : gE} {d : Nat} {Q : gO → gS → Prop} (b : Nat) (hb : isBk b) (hd : 1 ≤ d)  (v : gV) (hp : p_X6_removeId_P_8 b    v) (hQ : gqV Q (f_X6_removeId_P_8 b   v)) : gG E m_X6_removeId d Q 0 0 (rS v) 8 [(0, .ref (gX E + (b + 1)))] [] := by
  refine g_aload_n 0 dX6_removeId_8 rfl ?_
  refine g_dup dX6_removeId_9 rfl ?_
  refine r_get (.int (v.1 (b + 1) 1)) f_X6_19_X5 rfl (kb_1 hb) (lt_b hb (by decide)) dX6_removeId_10 (fun _ => rfl) ?_
  refine g_iconst dX6_removeId_13 (1 : Int32) (by decide) ?_
  refine g_isub dX6_removeId_14 ?_
  refine r_put pf_X6_19_X5 rfl (kb_1 hb) (by decide) (by decide) rfl (lt_b hb (by decide)) rfl rfl dX6_removeId_15 ?_
  refine g_lv (lv' := []) [] rfl ?_
  exact w_X6_removeId_P_18 b hb hd     (vM v (b + 1) 1 ((v.1 (b + 1) 1) - (1 : Int32))) hp hQ
def f_X6_removeId_P_0 (b : Nat) (x1 : Int32) (v : gV) : gV := f_X6_removeId_P_8 b   (f_X11_closeGap (b + 2) 8 x1 v)
def p_X6_removeId_P_0 (b : Nat) (x1 : Int32) (v : gV) : Prop := (p_X11_closeGap (b + 2) 8 x1 v) ∧ (p_X6_removeId_P_8 b    (f_X11_closeGap (b + 2) 8 x1 v))
set_option maxHeartbeats 4000000 in
set_option maxRecDepth 100000 in
theorem w_X6_removeId_P_0 {E : gE} {d : Nat} {Q : gO → gS → Prop} (b : Nat) (hb : isBk b) (hd : 1 ≤ d) (x1 : Int32) (v : gV) (hp : p_X6_removeId_P_0 b   x1 v) (hQ : gqV Q (f_X6_removeId_P_0 b  x1 v)) : gG E m_X6_removeId d Q 0 0 (rS v) 0 [(0, .ref (gX E + (b + 1))), (1, .int x1)] [] := by
  refine g_aload_n 0 dX6_removeId_0 rfl ?_
  refine r_get (.ref (gX E + (b + 2))) f_X6_7_X5 rfl (kb_1 hb) (lt_b hb (by decide)) dX6_removeId_1 (fun _ => rfl) ?_
  refine g_iload_n 1 dX6_removeId_4 rfl ?_
  obtain ⟨h1, hp⟩ := hp
  refine g_callN (rest := []) s_X6_41 rfl (c_X11_closeGap (E := E) (d := d - 1) (b + 2) 8 (by decide) (kb_2 hb) (lt_b hb (by decide)) (by omega) x1 v h1) rfl rfl (Nat.le_of_ble_eq_true rfl) (by omega) (by decide) (by decide) dX6_removeId_5 (adN ?_) axN
  refine g_lv (lv' := [(0, .ref (gX E + (b + 1)))]) [0] rfl ?_
  exact w_X6_removeId_P_8 b hb hd     (f_X11_closeGap (b + 2) 8 x1 v) hp hQ
def f_X6_removeId_P (b : Nat) (x1 : Int32) (v : gV) : gV := f_X6_removeId_P_0 b x1 v
def p_X6_removeId_P (b : Nat) (x1 : Int32) (v : gV) : Prop := p_X6_removeId_P_0 b x1 v
theorem c_X6_removeId_P {E : gE} {d : Nat} (b : Nat) (hb : isBk b) (hd : 1 ≤ d) (x1 : Int32) (v : gV) (hp : p_X6_removeId_P b x1 v) : CT E m_X6_removeId d 0 0 [.ref (gX E + (b + 1)), .int x1] (rS v) (Cq (.inl none) (f_X6_removeId_P b x1 v)) := CT.of ok_X6_removeId rfl (Nat.le_of_ble_eq_true rfl) (w_X6_removeId_P_0 b hb hd x1 v hp ⟨rfl, rfl⟩)
def f_X6_removeId_C_18 (b : Nat)  (v : gV) : gV := v
def p_X6_removeId_C_18 (b : Nat)  (v : gV) : Prop := True
set_option maxHeartbeats 4000000 in
set_option maxRecDepth 100000 in
theorem w_X6_removeId_C_18 {E : gE} {d : Nat} {Q : gO → gS → Prop} (b : Nat) (hb : isBk b) (hd : 1 ≤ d)  (v : gV) (hp : p_X6_removeId_C_18 b    v) (hQ : gqV Q (f_X6_removeId_C_18 b   v)) : gG E m_X6_removeId d Q 0 0 (rS v) 18 [] [] := by
  exact g_vret rfl dX6_removeId_18 hQ
def f_X6_removeId_C_8 (b : Nat)  (v : gV) : gV := f_X6_removeId_C_18 b   (vM v (b + 10) 1 ((v.1 (b + 10) 1) - (1 : Int32)))
def p_X6_removeId_C_8 (b : Nat)  (v : gV) : Prop := p_X6_removeId_C_18 b    (vM v (b + 10) 1 ((v.1 (b + 10) 1) - (1 : Int32)))
set_option maxHeartbeats 4000000 in
set_option maxRecDepth 100000 in
theorem w_X6_removeId_C_8 {E : gE} {d : Nat} {Q : gO → gS → Prop} (b : Nat) (hb : isBk b) (hd : 1 ≤ d)  (v : gV) (hp : p_X6_removeId_C_8 b    v) (hQ : gqV Q (f_X6_removeId_C_8 b   v)) : gG E m_X6_removeId d Q 0 0 (rS v) 8 [(0, .ref (gX E + (b + 10)))] [] := by
  refine g_aload_n 0 dX6_removeId_8 rfl ?_
  refine g_dup dX6_removeId_9 rfl ?_
  refine r_get (.int (v.1 (b + 10) 1)) f_X6_19_X2 rfl (kb_10 hb) (lt_b hb (by decide)) dX6_removeId_10 (fun _ => rfl) ?_
  refine g_iconst dX6_removeId_13 (1 : Int32) (by decide) ?_
  refine g_isub dX6_removeId_14 ?_
  refine r_put pf_X6_19_X2 rfl (kb_10 hb) (by decide) (by decide) rfl (lt_b hb (by decide)) rfl rfl dX6_removeId_15 ?_
  refine g_lv (lv' := []) [] rfl ?_
  exact w_X6_removeId_C_18 b hb hd     (vM v (b + 10) 1 ((v.1 (b + 10) 1) - (1 : Int32))) hp hQ
def f_X6_removeId_C_0 (b : Nat) (x1 : Int32) (v : gV) : gV := f_X6_removeId_C_8 b   (f_X11_closeGap (b + 11) 12 x1 v)
def p_X6_removeId_C_0 (b : Nat) (x1 : Int32) (v : gV) : Prop := (p_X11_closeGap (b + 11) 12 x1 v) ∧ (p_X6_removeId_C_8 b    (f_X11_closeGap (b + 11) 12 x1 v))
set_option maxHeartbeats 4000000 in
set_option maxRecDepth 100000 in
theorem w_X6_removeId_C_0 {E : gE} {d : Nat} {Q : gO → gS → Prop} (b : Nat) (hb : isBk b) (hd : 1 ≤ d) (x1 : Int32) (v : gV) (hp : p_X6_removeId_C_0 b   x1 v) (hQ : gqV Q (f_X6_removeId_C_0 b  x1 v)) : gG E m_X6_removeId d Q 0 0 (rS v) 0 [(0, .ref (gX E + (b + 10))), (1, .int x1)] [] := by
  refine g_aload_n 0 dX6_removeId_0 rfl ?_
  refine r_get (.ref (gX E + (b + 11))) f_X6_7_X2 rfl (kb_10 hb) (lt_b hb (by decide)) dX6_removeId_1 (fun _ => rfl) ?_
  refine g_iload_n 1 dX6_removeId_4 rfl ?_
  obtain ⟨h1, hp⟩ := hp
  refine g_callN (rest := []) s_X6_41 rfl (c_X11_closeGap (E := E) (d := d - 1) (b + 11) 12 (by decide) (kb_11 hb) (lt_b hb (by decide)) (by omega) x1 v h1) rfl rfl (Nat.le_of_ble_eq_true rfl) (by omega) (by decide) (by decide) dX6_removeId_5 (adN ?_) axN
  refine g_lv (lv' := [(0, .ref (gX E + (b + 10)))]) [0] rfl ?_
  exact w_X6_removeId_C_8 b hb hd     (f_X11_closeGap (b + 11) 12 x1 v) hp hQ
def f_X6_removeId_C (b : Nat) (x1 : Int32) (v : gV) : gV := f_X6_removeId_C_0 b x1 v
def p_X6_removeId_C (b : Nat) (x1 : Int32) (v : gV) : Prop := p_X6_removeId_C_0 b x1 v
theorem c_X6_removeId_C {E : gE} {d : Nat} (b : Nat) (hb : isBk b) (hd : 1 ≤ d) (x1 : Int32) (v : gV) (hp : p_X6_removeId_C b x1 v) : CT E m_X6_removeId d 0 0 [.ref (gX E + (b + 10)), .int x1] (rS v) (Cq (.inl none) (f_X6_removeId_C b x1 v)) := CT.of ok_X6_removeId rfl (Nat.le_of_ble_eq_true rfl) (w_X6_removeId_C_0 b hb hd x1 v hp ⟨rfl, rfl⟩)
def f_X6_idAtRank_P_2 (b : Nat) : Nat → Int32 → Int32 → gV → Int32 ⊕ String
  | 0, _, _, v => Sum.inl 0
  | n + 1, x1, x2, v => if (v.1 (b + 1) 1) ≤ x2 then (Sum.inr "java/util/NoSuchElementException") else (if (f_X6_countAhead_P b x2 v) = x1 then (Sum.inl (v.1 (b + 2) x2.toNatClampNeg)) else (f_X6_idAtRank_P_2 b  n x1 (x2 + 1) v))
def p_X6_idAtRank_P_2 (b : Nat) : Nat → Int32 → Int32 → gV → Prop
  | 0, _, _, _ => False
  | n + 1, x1, x2, v => (((v.1 (b + 1) 1) ≤ x2) → (True)) ∧ (¬ ((v.1 (b + 1) 1) ≤ x2) → ((p_X6_countAhead_P b x2 v) ∧ ((((f_X6_countAhead_P b x2 v) = x1) → ((vp_in x2 8) ∧ (True))) ∧ (¬ ((f_X6_countAhead_P b x2 v) = x1) → (p_X6_idAtRank_P_2 b   n x1 (x2 + 1) v)))))
set_option maxHeartbeats 4000000 in
set_option maxRecDepth 100000 in
theorem w_X6_idAtRank_P_2 {E : gE} {d : Nat} {Q : gO → gS → Prop} (b : Nat) (hb : isBk b) (hd : 7 ≤ d) : ∀ (n : Nat) (x1 : Int32) (x2 : Int32) (v : gV), p_X6_idAtRank_P_2 b   n x1 x2 v → gqTI Q v (f_X6_idAtRank_P_2 b  n x1 x2 v) → gG E m_X6_idAtRank d Q 1 6 (rS v) 2 [(0, .ref (gX E + (b + 1))), (1, .int x1), (2, .int x2)] [] := by
  intro n
  induction n with
  | zero => intro x1 x2 v hp; exact hp.elim
  | succ n ih =>
    intro x1 x2 v hp hQ
    refine g_iload_n 2 dX6_idAtRank_2 rfl ?_
    refine g_aload_n 0 dX6_idAtRank_3 rfl ?_
    refine r_get (.int (v.1 (b + 1) 1)) f_X6_19_X5 rfl (kb_1 hb) (lt_b hb (by decide)) dX6_idAtRank_4 (fun _ => rfl) ?_
    refine g_icmp_ge 32 dX6_idAtRank_7 (by decide) (fun h1 => ?_) (fun h1 => ?_)
    · have hQ := qp (P := gqTI Q v) h1 hQ
      have hp := hp.1 h1
      exact g_throwN rfl t_X6_30_49 rfl rfl rfl (by omega) (by decide) (by decide) (Nat.le_of_ble_eq_true rfl) dX6_idAtRank_32 dX6_idAtRank_35 dX6_idAtRank_36 dX6_idAtRank_38 dX6_idAtRank_41 hQ
    · have hQ := qn (P := gqTI Q v) h1 hQ
      have hp := hp.2 h1
      refine g_aload_n 0 dX6_idAtRank_10 rfl ?_
      refine g_iload_n 2 dX6_idAtRank_11 rfl ?_
      obtain ⟨h2, hp⟩ := hp
      refine g_callU (rest := []) s_X6_45_X5 rfl (c_X6_countAhead_P (E := E) (d := d - 1) b hb (by omega) x2 v h2) (kb_1 hb) (lt_b hb (by decide)) rfl rfl (Nat.le_of_ble_eq_true rfl) (by omega) (by decide) (by decide) dX6_idAtRank_12 (adV ?_) axN
      refine g_iload_n 1 dX6_idAtRank_15 rfl ?_
      refine g_icmp_ne 26 dX6_idAtRank_16 (by decide) (fun h3 => ?_) (fun h3 => ?_)
      · have hQ := qn (P := gqTI Q v) h3 hQ
        have hp := hp.2 h3
        refine g_iinc 2 (x2 + 1) [(2, .int (x2 + 1)), (0, .ref (gX E + (b + 1))), (1, .int x1)] dX6_idAtRank_26 rfl rfl (by decide) rfl ?_
        refine g_goto 2 dX6_idAtRank_29 (by decide) ?_
        refine g_lv (lv' := [(0, .ref (gX E + (b + 1))), (1, .int x1), (2, .int (x2 + 1))]) [1, 2, 0] rfl ?_
        exact ih x1 (x2 + 1) v hp hQ
      · have hQ := qp (P := gqTI Q v) h3 hQ
        have hp := hp.1 h3
        refine g_aload_n 0 dX6_idAtRank_19 rfl ?_
        refine r_get (.ref (gX E + (b + 2))) f_X6_7_X5 rfl (kb_1 hb) (lt_b hb (by decide)) dX6_idAtRank_20 (fun _ => rfl) ?_
        refine g_iload_n 2 dX6_idAtRank_23 rfl ?_
        obtain ⟨h4, hp⟩ := hp
        refine g_iald (kb_2 hb) (lt_b hb (by decide)) h4 dX6_idAtRank_24 ?_
        exact g_iret rfl dX6_idAtRank_25 hQ
def f_X6_idAtRank_P_0 (b : Nat) (x1 : Int32) (v : gV) : Int32 ⊕ String := f_X6_idAtRank_P_2 b  5000 x1 (0 : Int32) v
def p_X6_idAtRank_P_0 (b : Nat) (x1 : Int32) (v : gV) : Prop := p_X6_idAtRank_P_2 b   5000 x1 (0 : Int32) v
set_option maxHeartbeats 4000000 in
set_option maxRecDepth 100000 in
theorem w_X6_idAtRank_P_0 {E : gE} {d : Nat} {Q : gO → gS → Prop} (b : Nat) (hb : isBk b) (hd : 7 ≤ d) (x1 : Int32) (v : gV) (hp : p_X6_idAtRank_P_0 b   x1 v) (hQ : gqTI Q v (f_X6_idAtRank_P_0 b  x1 v)) : gG E m_X6_idAtRank d Q 1 6 (rS v) 0 [(0, .ref (gX E + (b + 1))), (1, .int x1)] [] := by
  refine g_iconst dX6_idAtRank_0 (0 : Int32) (by decide) ?_
  refine g_istore_n [(2, .int ((0 : Int32))), (0, .ref (gX E + (b + 1))), (1, .int x1)] dX6_idAtRank_1 rfl (by decide) rfl ?_
  refine g_lv (lv' := [(0, .ref (gX E + (b + 1))), (1, .int x1), (2, .int ((0 : Int32)))]) [1, 2, 0] rfl ?_
  exact w_X6_idAtRank_P_2 b hb hd    5000 x1 (0 : Int32) v hp hQ
def f_X6_idAtRank_P (b : Nat) (x1 : Int32) (v : gV) : Int32 ⊕ String := f_X6_idAtRank_P_0 b x1 v
def p_X6_idAtRank_P (b : Nat) (x1 : Int32) (v : gV) : Prop := p_X6_idAtRank_P_0 b x1 v
theorem c_X6_idAtRank_P {E : gE} {d : Nat} (b : Nat) (hb : isBk b) (hd : 7 ≤ d) (x1 : Int32) (v : gV) (hp : p_X6_idAtRank_P b x1 v) : CT E m_X6_idAtRank d 1 6 [.ref (gX E + (b + 1)), .int x1] (rS v) (Cq (gOi (f_X6_idAtRank_P b x1 v)) v) := CT.of ok_X6_idAtRank rfl (Nat.le_of_ble_eq_true rfl) (w_X6_idAtRank_P_0 b hb hd x1 v hp ⟨rfl, rfl⟩)
def f_X6_idAtRank_C_2 (b : Nat) : Nat → Int32 → Int32 → gV → Int32 ⊕ String
  | 0, _, _, v => Sum.inl 0
  | n + 1, x1, x2, v => if (v.1 (b + 10) 1) ≤ x2 then (Sum.inr "java/util/NoSuchElementException") else (if (f_X6_countAhead_C b x2 v) = x1 then (Sum.inl (v.1 (b + 11) x2.toNatClampNeg)) else (f_X6_idAtRank_C_2 b  n x1 (x2 + 1) v))
def p_X6_idAtRank_C_2 (b : Nat) : Nat → Int32 → Int32 → gV → Prop
  | 0, _, _, _ => False
  | n + 1, x1, x2, v => (((v.1 (b + 10) 1) ≤ x2) → (True)) ∧ (¬ ((v.1 (b + 10) 1) ≤ x2) → ((p_X6_countAhead_C b x2 v) ∧ ((((f_X6_countAhead_C b x2 v) = x1) → ((vp_in x2 12) ∧ (True))) ∧ (¬ ((f_X6_countAhead_C b x2 v) = x1) → (p_X6_idAtRank_C_2 b   n x1 (x2 + 1) v)))))
set_option maxHeartbeats 4000000 in
set_option maxRecDepth 100000 in
theorem w_X6_idAtRank_C_2 {E : gE} {d : Nat} {Q : gO → gS → Prop} (b : Nat) (hb : isBk b) (hd : 7 ≤ d) : ∀ (n : Nat) (x1 : Int32) (x2 : Int32) (v : gV), p_X6_idAtRank_C_2 b   n x1 x2 v → gqTI Q v (f_X6_idAtRank_C_2 b  n x1 x2 v) → gG E m_X6_idAtRank d Q 1 6 (rS v) 2 [(0, .ref (gX E + (b + 10))), (1, .int x1), (2, .int x2)] [] := by
  intro n
  induction n with
  | zero => intro x1 x2 v hp; exact hp.elim
  | succ n ih =>
    intro x1 x2 v hp hQ
    refine g_iload_n 2 dX6_idAtRank_2 rfl ?_
    refine g_aload_n 0 dX6_idAtRank_3 rfl ?_
    refine r_get (.int (v.1 (b + 10) 1)) f_X6_19_X2 rfl (kb_10 hb) (lt_b hb (by decide)) dX6_idAtRank_4 (fun _ => rfl) ?_
    refine g_icmp_ge 32 dX6_idAtRank_7 (by decide) (fun h1 => ?_) (fun h1 => ?_)
    · have hQ := qp (P := gqTI Q v) h1 hQ
      have hp := hp.1 h1
      exact g_throwN rfl t_X6_30_49 rfl rfl rfl (by omega) (by decide) (by decide) (Nat.le_of_ble_eq_true rfl) dX6_idAtRank_32 dX6_idAtRank_35 dX6_idAtRank_36 dX6_idAtRank_38 dX6_idAtRank_41 hQ
    · have hQ := qn (P := gqTI Q v) h1 hQ
      have hp := hp.2 h1
      refine g_aload_n 0 dX6_idAtRank_10 rfl ?_
      refine g_iload_n 2 dX6_idAtRank_11 rfl ?_
      obtain ⟨h2, hp⟩ := hp
      refine g_callU (rest := []) s_X6_45_X2 rfl (c_X6_countAhead_C (E := E) (d := d - 1) b hb (by omega) x2 v h2) (kb_10 hb) (lt_b hb (by decide)) rfl rfl (Nat.le_of_ble_eq_true rfl) (by omega) (by decide) (by decide) dX6_idAtRank_12 (adV ?_) axN
      refine g_iload_n 1 dX6_idAtRank_15 rfl ?_
      refine g_icmp_ne 26 dX6_idAtRank_16 (by decide) (fun h3 => ?_) (fun h3 => ?_)
      · have hQ := qn (P := gqTI Q v) h3 hQ
        have hp := hp.2 h3
        refine g_iinc 2 (x2 + 1) [(2, .int (x2 + 1)), (0, .ref (gX E + (b + 10))), (1, .int x1)] dX6_idAtRank_26 rfl rfl (by decide) rfl ?_
        refine g_goto 2 dX6_idAtRank_29 (by decide) ?_
        refine g_lv (lv' := [(0, .ref (gX E + (b + 10))), (1, .int x1), (2, .int (x2 + 1))]) [1, 2, 0] rfl ?_
        exact ih x1 (x2 + 1) v hp hQ
      · have hQ := qp (P := gqTI Q v) h3 hQ
        have hp := hp.1 h3
        refine g_aload_n 0 dX6_idAtRank_19 rfl ?_
        refine r_get (.ref (gX E + (b + 11))) f_X6_7_X2 rfl (kb_10 hb) (lt_b hb (by decide)) dX6_idAtRank_20 (fun _ => rfl) ?_
        refine g_iload_n 2 dX6_idAtRank_23 rfl ?_
        obtain ⟨h4, hp⟩ := hp
        refine g_iald (kb_11 hb) (lt_b hb (by decide)) h4 dX6_idAtRank_24 ?_
        exact g_iret rfl dX6_idAtRank_25 hQ
def f_X6_idAtRank_C_0 (b : Nat) (x1 : Int32) (v : gV) : Int32 ⊕ String := f_X6_idAtRank_C_2 b  5000 x1 (0 : Int32) v
def p_X6_idAtRank_C_0 (b : Nat) (x1 : Int32) (v : gV) : Prop := p_X6_idAtRank_C_2 b   5000 x1 (0 : Int32) v
set_option maxHeartbeats 4000000 in
set_option maxRecDepth 100000 in
theorem w_X6_idAtRank_C_0 {E : gE} {d : Nat} {Q : gO → gS → Prop} (b : Nat) (hb : isBk b) (hd : 7 ≤ d) (x1 : Int32) (v : gV) (hp : p_X6_idAtRank_C_0 b   x1 v) (hQ : gqTI Q v (f_X6_idAtRank_C_0 b  x1 v)) : gG E m_X6_idAtRank d Q 1 6 (rS v) 0 [(0, .ref (gX E + (b + 10))), (1, .int x1)] [] := by
  refine g_iconst dX6_idAtRank_0 (0 : Int32) (by decide) ?_
  refine g_istore_n [(2, .int ((0 : Int32))), (0, .ref (gX E + (b + 10))), (1, .int x1)] dX6_idAtRank_1 rfl (by decide) rfl ?_
  refine g_lv (lv' := [(0, .ref (gX E + (b + 10))), (1, .int x1), (2, .int ((0 : Int32)))]) [1, 2, 0] rfl ?_
  exact w_X6_idAtRank_C_2 b hb hd    5000 x1 (0 : Int32) v hp hQ
def f_X6_idAtRank_C (b : Nat) (x1 : Int32) (v : gV) : Int32 ⊕ String := f_X6_idAtRank_C_0 b x1 v
def p_X6_idAtRank_C (b : Nat) (x1 : Int32) (v : gV) : Prop := p_X6_idAtRank_C_0 b x1 v
theorem c_X6_idAtRank_C {E : gE} {d : Nat} (b : Nat) (hb : isBk b) (hd : 7 ≤ d) (x1 : Int32) (v : gV) (hp : p_X6_idAtRank_C b x1 v) : CT E m_X6_idAtRank d 1 6 [.ref (gX E + (b + 10)), .int x1] (rS v) (Cq (gOi (f_X6_idAtRank_C b x1 v)) v) := CT.of ok_X6_idAtRank rfl (Nat.le_of_ble_eq_true rfl) (w_X6_idAtRank_C_0 b hb hd x1 v hp ⟨rfl, rfl⟩)
def f_X8_copyFrom_52 (b : Nat) (b2 : Nat)  (v : gV) : gV := v
def p_X8_copyFrom_52 (b : Nat) (b2 : Nat)  (v : gV) : Prop := True
set_option maxHeartbeats 4000000 in
set_option maxRecDepth 100000 in
theorem w_X8_copyFrom_52 {E : gE} {d : Nat} {Q : gO → gS → Prop} (b : Nat) (b2 : Nat) (hb : isBk b) (hb2 : isBk b2) (hd : 3 ≤ d)  (v : gV) (hp : p_X8_copyFrom_52 b b2    v) (hQ : gqV Q (f_X8_copyFrom_52 b b2   v)) : gG E m_X8_copyFrom d Q 0 0 (rS v) 52 [] [] := by
  exact g_vret rfl dX8_copyFrom_52 hQ
def f_X8_copyFrom_44 (b : Nat) (b2 : Nat)  (v : gV) : gV := f_X8_copyFrom_52 b b2   (vM v (b + 30) 6 (v.1 (b2 + 30) 6))
def p_X8_copyFrom_44 (b : Nat) (b2 : Nat)  (v : gV) : Prop := p_X8_copyFrom_52 b b2    (vM v (b + 30) 6 (v.1 (b2 + 30) 6))
set_option maxHeartbeats 4000000 in
set_option maxRecDepth 100000 in
theorem w_X8_copyFrom_44 {E : gE} {d : Nat} {Q : gO → gS → Prop} (b : Nat) (b2 : Nat) (hb : isBk b) (hb2 : isBk b2) (hd : 3 ≤ d)  (v : gV) (hp : p_X8_copyFrom_44 b b2    v) (hQ : gqV Q (f_X8_copyFrom_44 b b2   v)) : gG E m_X8_copyFrom d Q 0 0 (rS v) 44 [(0, .ref (gX E + (b + 30))), (1, .ref (gX E + (b2 + 30)))] [] := by
  refine g_aload_n 0 dX8_copyFrom_44 rfl ?_
  refine g_aload_n 1 dX8_copyFrom_45 rfl ?_
  refine r_get (.int (v.1 (b2 + 30) 6)) f_X8_34_X8 rfl (kb_30 hb2) (lt_b hb2 (by decide)) dX8_copyFrom_46 (fun _ => rfl) ?_
  refine r_put pf_X8_34_X8 rfl (kb_30 hb) (by decide) (by decide) rfl (lt_b hb (by decide)) rfl rfl dX8_copyFrom_49 ?_
  refine g_lv (lv' := []) [] rfl ?_
  exact w_X8_copyFrom_52 b b2 hb hb2 hd     (vM v (b + 30) 6 (v.1 (b2 + 30) 6)) hp hQ
def f_X8_copyFrom_33 (b : Nat) (b2 : Nat)  (v : gV) : gV := f_X8_copyFrom_44 b b2   (f_X11_copyRow (b2 + 34) 4 (b + 34) 4 v)
def p_X8_copyFrom_33 (b : Nat) (b2 : Nat)  (v : gV) : Prop := (p_X11_copyRow (b2 + 34) 4 (b + 34) 4 v) ∧ (p_X8_copyFrom_44 b b2    (f_X11_copyRow (b2 + 34) 4 (b + 34) 4 v))
set_option maxHeartbeats 4000000 in
set_option maxRecDepth 100000 in
theorem w_X8_copyFrom_33 {E : gE} {d : Nat} {Q : gO → gS → Prop} (b : Nat) (b2 : Nat) (hb : isBk b) (hb2 : isBk b2) (hd : 3 ≤ d)  (v : gV) (hp : p_X8_copyFrom_33 b b2    v) (hQ : gqV Q (f_X8_copyFrom_33 b b2   v)) : gG E m_X8_copyFrom d Q 0 0 (rS v) 33 [(0, .ref (gX E + (b + 30))), (1, .ref (gX E + (b2 + 30)))] [] := by
  refine g_aload_n 1 dX8_copyFrom_33 rfl ?_
  refine r_get (.ref (gX E + (b2 + 34))) f_X8_21_X8 rfl (kb_30 hb2) (lt_b hb2 (by decide)) dX8_copyFrom_34 (fun _ => rfl) ?_
  refine g_aload_n 0 dX8_copyFrom_37 rfl ?_
  refine r_get (.ref (gX E + (b + 34))) f_X8_21_X8 rfl (kb_30 hb) (lt_b hb (by decide)) dX8_copyFrom_38 (fun _ => rfl) ?_
  obtain ⟨h4, hp⟩ := hp
  refine g_callN (rest := []) s_X8_30 rfl (c_X11_copyRow (E := E) (d := d - 1) (b2 + 34) 4 (b + 34) 4 (by decide) (kb_34 hb2) (lt_b hb2 (by decide)) (by decide) (kb_34 hb) (lt_b hb (by decide)) (by omega)  v h4) rfl rfl (Nat.le_of_ble_eq_true rfl) (by omega) (by decide) (by decide) dX8_copyFrom_41 (adN ?_) axN
  exact w_X8_copyFrom_44 b b2 hb hb2 hd     (f_X11_copyRow (b2 + 34) 4 (b + 34) 4 v) hp hQ
def f_X8_copyFrom_22 (b : Nat) (b2 : Nat)  (v : gV) : gV := f_X8_copyFrom_33 b b2   (f_X11_copyRow (b2 + 33) 4 (b + 33) 4 v)
def p_X8_copyFrom_22 (b : Nat) (b2 : Nat)  (v : gV) : Prop := (p_X11_copyRow (b2 + 33) 4 (b + 33) 4 v) ∧ (p_X8_copyFrom_33 b b2    (f_X11_copyRow (b2 + 33) 4 (b + 33) 4 v))
set_option maxHeartbeats 4000000 in
set_option maxRecDepth 100000 in
theorem w_X8_copyFrom_22 {E : gE} {d : Nat} {Q : gO → gS → Prop} (b : Nat) (b2 : Nat) (hb : isBk b) (hb2 : isBk b2) (hd : 3 ≤ d)  (v : gV) (hp : p_X8_copyFrom_22 b b2    v) (hQ : gqV Q (f_X8_copyFrom_22 b b2   v)) : gG E m_X8_copyFrom d Q 0 0 (rS v) 22 [(0, .ref (gX E + (b + 30))), (1, .ref (gX E + (b2 + 30)))] [] := by
  refine g_aload_n 1 dX8_copyFrom_22 rfl ?_
  refine r_get (.ref (gX E + (b2 + 33))) f_X8_18_X8 rfl (kb_30 hb2) (lt_b hb2 (by decide)) dX8_copyFrom_23 (fun _ => rfl) ?_
  refine g_aload_n 0 dX8_copyFrom_26 rfl ?_
  refine r_get (.ref (gX E + (b + 33))) f_X8_18_X8 rfl (kb_30 hb) (lt_b hb (by decide)) dX8_copyFrom_27 (fun _ => rfl) ?_
  obtain ⟨h3, hp⟩ := hp
  refine g_callN (rest := []) s_X8_30 rfl (c_X11_copyRow (E := E) (d := d - 1) (b2 + 33) 4 (b + 33) 4 (by decide) (kb_33 hb2) (lt_b hb2 (by decide)) (by decide) (kb_33 hb) (lt_b hb (by decide)) (by omega)  v h3) rfl rfl (Nat.le_of_ble_eq_true rfl) (by omega) (by decide) (by decide) dX8_copyFrom_30 (adN ?_) axN
  exact w_X8_copyFrom_33 b b2 hb hb2 hd     (f_X11_copyRow (b2 + 33) 4 (b + 33) 4 v) hp hQ
def f_X8_copyFrom_11 (b : Nat) (b2 : Nat)  (v : gV) : gV := f_X8_copyFrom_22 b b2   (f_X11_copyRow (b2 + 32) 4 (b + 32) 4 v)
def p_X8_copyFrom_11 (b : Nat) (b2 : Nat)  (v : gV) : Prop := (p_X11_copyRow (b2 + 32) 4 (b + 32) 4 v) ∧ (p_X8_copyFrom_22 b b2    (f_X11_copyRow (b2 + 32) 4 (b + 32) 4 v))
set_option maxHeartbeats 4000000 in
set_option maxRecDepth 100000 in
theorem w_X8_copyFrom_11 {E : gE} {d : Nat} {Q : gO → gS → Prop} (b : Nat) (b2 : Nat) (hb : isBk b) (hb2 : isBk b2) (hd : 3 ≤ d)  (v : gV) (hp : p_X8_copyFrom_11 b b2    v) (hQ : gqV Q (f_X8_copyFrom_11 b b2   v)) : gG E m_X8_copyFrom d Q 0 0 (rS v) 11 [(0, .ref (gX E + (b + 30))), (1, .ref (gX E + (b2 + 30)))] [] := by
  refine g_aload_n 1 dX8_copyFrom_11 rfl ?_
  refine r_get (.ref (gX E + (b2 + 32))) f_X8_15_X8 rfl (kb_30 hb2) (lt_b hb2 (by decide)) dX8_copyFrom_12 (fun _ => rfl) ?_
  refine g_aload_n 0 dX8_copyFrom_15 rfl ?_
  refine r_get (.ref (gX E + (b + 32))) f_X8_15_X8 rfl (kb_30 hb) (lt_b hb (by decide)) dX8_copyFrom_16 (fun _ => rfl) ?_
  obtain ⟨h2, hp⟩ := hp
  refine g_callN (rest := []) s_X8_30 rfl (c_X11_copyRow (E := E) (d := d - 1) (b2 + 32) 4 (b + 32) 4 (by decide) (kb_32 hb2) (lt_b hb2 (by decide)) (by decide) (kb_32 hb) (lt_b hb (by decide)) (by omega)  v h2) rfl rfl (Nat.le_of_ble_eq_true rfl) (by omega) (by decide) (by decide) dX8_copyFrom_19 (adN ?_) axN
  exact w_X8_copyFrom_22 b b2 hb hb2 hd     (f_X11_copyRow (b2 + 32) 4 (b + 32) 4 v) hp hQ
def f_X8_copyFrom_0 (b : Nat) (b2 : Nat)  (v : gV) : gV := f_X8_copyFrom_11 b b2   (f_X11_copyRow (b2 + 31) 4 (b + 31) 4 v)
def p_X8_copyFrom_0 (b : Nat) (b2 : Nat)  (v : gV) : Prop := (p_X11_copyRow (b2 + 31) 4 (b + 31) 4 v) ∧ (p_X8_copyFrom_11 b b2    (f_X11_copyRow (b2 + 31) 4 (b + 31) 4 v))
set_option maxHeartbeats 4000000 in
set_option maxRecDepth 100000 in
theorem w_X8_copyFrom_0 {E : gE} {d : Nat} {Q : gO → gS → Prop} (b : Nat) (b2 : Nat) (hb : isBk b) (hb2 : isBk b2) (hd : 3 ≤ d)  (v : gV) (hp : p_X8_copyFrom_0 b b2    v) (hQ : gqV Q (f_X8_copyFrom_0 b b2   v)) : gG E m_X8_copyFrom d Q 0 0 (rS v) 0 [(0, .ref (gX E + (b + 30))), (1, .ref (gX E + (b2 + 30)))] [] := by
  refine g_aload_n 1 dX8_copyFrom_0 rfl ?_
  refine r_get (.ref (gX E + (b2 + 31))) f_X8_9_X8 rfl (kb_30 hb2) (lt_b hb2 (by decide)) dX8_copyFrom_1 (fun _ => rfl) ?_
  refine g_aload_n 0 dX8_copyFrom_4 rfl ?_
  refine r_get (.ref (gX E + (b + 31))) f_X8_9_X8 rfl (kb_30 hb) (lt_b hb (by decide)) dX8_copyFrom_5 (fun _ => rfl) ?_
  obtain ⟨h1, hp⟩ := hp
  refine g_callN (rest := []) s_X8_30 rfl (c_X11_copyRow (E := E) (d := d - 1) (b2 + 31) 4 (b + 31) 4 (by decide) (kb_31 hb2) (lt_b hb2 (by decide)) (by decide) (kb_31 hb) (lt_b hb (by decide)) (by omega)  v h1) rfl rfl (Nat.le_of_ble_eq_true rfl) (by omega) (by decide) (by decide) dX8_copyFrom_8 (adN ?_) axN
  exact w_X8_copyFrom_11 b b2 hb hb2 hd     (f_X11_copyRow (b2 + 31) 4 (b + 31) 4 v) hp hQ
def f_X8_copyFrom (b : Nat) (b2 : Nat)  (v : gV) : gV := f_X8_copyFrom_0 b b2  v
def p_X8_copyFrom (b : Nat) (b2 : Nat)  (v : gV) : Prop := p_X8_copyFrom_0 b b2  v
theorem c_X8_copyFrom {E : gE} {d : Nat} (b : Nat) (b2 : Nat) (hb : isBk b) (hb2 : isBk b2) (hd : 3 ≤ d)  (v : gV) (hp : p_X8_copyFrom b b2  v) : CT E m_X8_copyFrom d 0 0 [.ref (gX E + (b + 30)), .ref (gX E + (b2 + 30))] (rS v) (Cq (.inl none) (f_X8_copyFrom b b2  v)) := CT.of ok_X8_copyFrom rfl (Nat.le_of_ble_eq_true rfl) (w_X8_copyFrom_0 b b2 hb hb2 hd  v hp ⟨rfl, rfl⟩)
def f_X8_add_76 (b : Nat) (x4 : Int32) (v : gV) : (Int32 ⊕ String) × gV := (Sum.inl x4, v)
def p_X8_add_76 (b : Nat) (x4 : Int32) (v : gV) : Prop := True
set_option maxHeartbeats 4000000 in
set_option maxRecDepth 100000 in
theorem w_X8_add_76 {E : gE} {d : Nat} {Q : gO → gS → Prop} (b : Nat) (hb : isBk b) (hd : 8 ≤ d) (x4 : Int32) (v : gV) (hp : p_X8_add_76 b   x4 v) (hQ : gqTIV Q (f_X8_add_76 b  x4 v)) : gG E m_X8_add d Q 0 0 (rS v) 76 [(4, .int x4)] [] := by
  refine g_iload 0 dX8_add_76 rfl ?_
  exact g_iret rfl dX8_add_78 hQ
def f_X8_add_66 (b : Nat) (x4 : Int32) (v : gV) : (Int32 ⊕ String) × gV := f_X8_add_76 b  x4 (vM v (b + 30) 6 ((v.1 (b + 30) 6) + (1 : Int32)))
def p_X8_add_66 (b : Nat) (x4 : Int32) (v : gV) : Prop := p_X8_add_76 b   x4 (vM v (b + 30) 6 ((v.1 (b + 30) 6) + (1 : Int32)))
set_option maxHeartbeats 4000000 in
set_option maxRecDepth 100000 in
theorem w_X8_add_66 {E : gE} {d : Nat} {Q : gO → gS → Prop} (b : Nat) (hb : isBk b) (hd : 8 ≤ d) (x4 : Int32) (v : gV) (hp : p_X8_add_66 b   x4 v) (hQ : gqTIV Q (f_X8_add_66 b  x4 v)) : gG E m_X8_add d Q 0 0 (rS v) 66 [(0, .ref (gX E + (b + 30))), (4, .int x4)] [] := by
  refine g_aload_n 0 dX8_add_66 rfl ?_
  refine g_dup dX8_add_67 rfl ?_
  refine r_get (.int (v.1 (b + 30) 6)) f_X8_34_X8 rfl (kb_30 hb) (lt_b hb (by decide)) dX8_add_68 (fun _ => rfl) ?_
  refine g_iconst dX8_add_71 (1 : Int32) (by decide) ?_
  refine g_iadd dX8_add_72 ?_
  refine r_put pf_X8_34_X8 rfl (kb_30 hb) (by decide) (by decide) rfl (lt_b hb (by decide)) rfl rfl dX8_add_73 ?_
  refine g_lv (lv' := [(4, .int x4)]) [1] rfl ?_
  exact w_X8_add_76 b hb hd    x4 (vM v (b + 30) 6 ((v.1 (b + 30) 6) + (1 : Int32))) hp hQ
def f_X8_add_58 (b : Nat) (x3 : Int32) (x4 : Int32) (v : gV) : (Int32 ⊕ String) × gV := f_X8_add_66 b  x4 (vM v (b + 34) x4.toNatClampNeg x3)
def p_X8_add_58 (b : Nat) (x3 : Int32) (x4 : Int32) (v : gV) : Prop := (vp_in x4 4) ∧ (p_X8_add_66 b   x4 (vM v (b + 34) x4.toNatClampNeg x3))
set_option maxHeartbeats 4000000 in
set_option maxRecDepth 100000 in
theorem w_X8_add_58 {E : gE} {d : Nat} {Q : gO → gS → Prop} (b : Nat) (hb : isBk b) (hd : 8 ≤ d) (x3 : Int32) (x4 : Int32) (v : gV) (hp : p_X8_add_58 b   x3 x4 v) (hQ : gqTIV Q (f_X8_add_58 b  x3 x4 v)) : gG E m_X8_add d Q 0 0 (rS v) 58 [(0, .ref (gX E + (b + 30))), (3, .int x3), (4, .int x4)] [] := by
  refine g_aload_n 0 dX8_add_58 rfl ?_
  refine r_get (.ref (gX E + (b + 34))) f_X8_21_X8 rfl (kb_30 hb) (lt_b hb (by decide)) dX8_add_59 (fun _ => rfl) ?_
  refine g_iload 2 dX8_add_62 rfl ?_
  refine g_iload_n 1 dX8_add_64 rfl ?_
  obtain ⟨h16, hp⟩ := hp
  refine r_iast (kb_34 hb) (lt_b hb (by decide)) h16 dX8_add_65 ?_
  refine g_lv (lv' := [(0, .ref (gX E + (b + 30))), (4, .int x4)]) [0, 2] rfl ?_
  exact w_X8_add_66 b hb hd    x4 (vM v (b + 34) x4.toNatClampNeg x3) hp hQ
def f_X8_add_50 (b : Nat) (x3 : Int32) (x4 : Int32) (v : gV) : (Int32 ⊕ String) × gV := f_X8_add_58 b  x3 x4 (vM v (b + 33) x4.toNatClampNeg x3)
def p_X8_add_50 (b : Nat) (x3 : Int32) (x4 : Int32) (v : gV) : Prop := (vp_in x4 4) ∧ (p_X8_add_58 b   x3 x4 (vM v (b + 33) x4.toNatClampNeg x3))
set_option maxHeartbeats 4000000 in
set_option maxRecDepth 100000 in
theorem w_X8_add_50 {E : gE} {d : Nat} {Q : gO → gS → Prop} (b : Nat) (hb : isBk b) (hd : 8 ≤ d) (x3 : Int32) (x4 : Int32) (v : gV) (hp : p_X8_add_50 b   x3 x4 v) (hQ : gqTIV Q (f_X8_add_50 b  x3 x4 v)) : gG E m_X8_add d Q 0 0 (rS v) 50 [(0, .ref (gX E + (b + 30))), (3, .int x3), (4, .int x4)] [] := by
  refine g_aload_n 0 dX8_add_50 rfl ?_
  refine r_get (.ref (gX E + (b + 33))) f_X8_18_X8 rfl (kb_30 hb) (lt_b hb (by decide)) dX8_add_51 (fun _ => rfl) ?_
  refine g_iload 2 dX8_add_54 rfl ?_
  refine g_iload_n 1 dX8_add_56 rfl ?_
  obtain ⟨h15, hp⟩ := hp
  refine r_iast (kb_33 hb) (lt_b hb (by decide)) h15 dX8_add_57 ?_
  exact w_X8_add_58 b hb hd    x3 x4 (vM v (b + 33) x4.toNatClampNeg x3) hp hQ
def f_X8_add_42 (b : Nat) (x2 : Int32) (x3 : Int32) (x4 : Int32) (v : gV) : (Int32 ⊕ String) × gV := f_X8_add_50 b  x3 x4 (vM v (b + 32) x4.toNatClampNeg x2)
def p_X8_add_42 (b : Nat) (x2 : Int32) (x3 : Int32) (x4 : Int32) (v : gV) : Prop := (vp_in x4 4) ∧ (p_X8_add_50 b   x3 x4 (vM v (b + 32) x4.toNatClampNeg x2))
set_option maxHeartbeats 4000000 in
set_option maxRecDepth 100000 in
theorem w_X8_add_42 {E : gE} {d : Nat} {Q : gO → gS → Prop} (b : Nat) (hb : isBk b) (hd : 8 ≤ d) (x2 : Int32) (x3 : Int32) (x4 : Int32) (v : gV) (hp : p_X8_add_42 b   x2 x3 x4 v) (hQ : gqTIV Q (f_X8_add_42 b  x2 x3 x4 v)) : gG E m_X8_add d Q 0 0 (rS v) 42 [(0, .ref (gX E + (b + 30))), (2, .int x2), (3, .int x3), (4, .int x4)] [] := by
  refine g_aload_n 0 dX8_add_42 rfl ?_
  refine r_get (.ref (gX E + (b + 32))) f_X8_15_X8 rfl (kb_30 hb) (lt_b hb (by decide)) dX8_add_43 (fun _ => rfl) ?_
  refine g_iload 3 dX8_add_46 rfl ?_
  refine g_iload_n 1 dX8_add_48 rfl ?_
  obtain ⟨h14, hp⟩ := hp
  refine r_iast (kb_32 hb) (lt_b hb (by decide)) h14 dX8_add_49 ?_
  refine g_lv (lv' := [(0, .ref (gX E + (b + 30))), (3, .int x3), (4, .int x4)]) [0, 2, 3] rfl ?_
  exact w_X8_add_50 b hb hd    x3 x4 (vM v (b + 32) x4.toNatClampNeg x2) hp hQ
def f_X8_add_32 (b : Nat) (x1 : Int32) (x2 : Int32) (x3 : Int32) (s0 : Int32) (v : gV) : (Int32 ⊕ String) × gV := f_X8_add_42 b  x2 x3 s0 (vM v (b + 31) s0.toNatClampNeg x1)
def p_X8_add_32 (b : Nat) (x1 : Int32) (x2 : Int32) (x3 : Int32) (s0 : Int32) (v : gV) : Prop := (vp_in s0 4) ∧ (p_X8_add_42 b   x2 x3 s0 (vM v (b + 31) s0.toNatClampNeg x1))
set_option maxHeartbeats 4000000 in
set_option maxRecDepth 100000 in
theorem w_X8_add_32 {E : gE} {d : Nat} {Q : gO → gS → Prop} (b : Nat) (hb : isBk b) (hd : 8 ≤ d) (x1 : Int32) (x2 : Int32) (x3 : Int32) (s0 : Int32) (v : gV) (hp : p_X8_add_32 b   x1 x2 x3 s0 v) (hQ : gqTIV Q (f_X8_add_32 b  x1 x2 x3 s0 v)) : gG E m_X8_add d Q 0 0 (rS v) 32 [(0, .ref (gX E + (b + 30))), (1, .int x1), (2, .int x2), (3, .int x3)] [.int s0] := by
  refine g_istore [(4, .int s0), (0, .ref (gX E + (b + 30))), (1, .int x1), (2, .int x2), (3, .int x3)] dX8_add_32 (by decide) rfl ?_
  refine g_aload_n 1 dX8_add_34 rfl ?_
  refine r_get (.ref (gX E + (b + 31))) f_X8_9_X8 rfl (kb_30 hb) (lt_b hb (by decide)) dX8_add_35 (fun _ => rfl) ?_
  refine g_iload 0 dX8_add_38 rfl ?_
  refine g_iload_n 2 dX8_add_40 rfl ?_
  obtain ⟨h13, hp⟩ := hp
  refine r_iast (kb_31 hb) (lt_b hb (by decide)) h13 dX8_add_41 ?_
  refine g_lv (lv' := [(0, .ref (gX E + (b + 30))), (2, .int x2), (3, .int x3), (4, .int s0)]) [1, 3, 4, 0] rfl ?_
  exact w_X8_add_42 b hb hd    x2 x3 s0 (vM v (b + 31) s0.toNatClampNeg x1) hp hQ
def f_X8_add_23 (b : Nat) (x1 : Int32) (x2 : Int32) (x3 : Int32) (s0 : Int32) (v : gV) : (Int32 ⊕ String) × gV := Sum.elim (fun (sr11 : Int32) => f_X8_add_32 b  x1 x2 x3 sr11 v) (fun (e : String) => (Sum.inr e, v)) (f_X11_freePlace (v.1 (b + 30) 6) (4 : Int32) v)
def p_X8_add_23 (b : Nat) (x1 : Int32) (x2 : Int32) (x3 : Int32) (s0 : Int32) (v : gV) : Prop := (p_X11_freePlace (v.1 (b + 30) 6) (4 : Int32) v) ∧ (∀ (sr11 : Int32), (f_X11_freePlace (v.1 (b + 30) 6) (4 : Int32) v) = Sum.inl sr11 → (p_X8_add_32 b   x1 x2 x3 sr11 v))
set_option maxHeartbeats 4000000 in
set_option maxRecDepth 100000 in
theorem w_X8_add_23 {E : gE} {d : Nat} {Q : gO → gS → Prop} (b : Nat) (hb : isBk b) (hd : 8 ≤ d) (x1 : Int32) (x2 : Int32) (x3 : Int32) (s0 : Int32) (v : gV) (hp : p_X8_add_23 b   x1 x2 x3 s0 v) (hQ : gqTIV Q (f_X8_add_23 b  x1 x2 x3 s0 v)) : gG E m_X8_add d Q 1 6 (rS v) 23 [(0, .ref (gX E + (b + 30))), (1, .int x1), (2, .int x2), (3, .int x3)] [.int s0] := by
  refine g_pop dX8_add_23 rfl ?_
  refine g_aload_n 0 dX8_add_24 rfl ?_
  refine r_get (.int (v.1 (b + 30) 6)) f_X8_34_X8 rfl (kb_30 hb) (lt_b hb (by decide)) dX8_add_25 (fun _ => rfl) ?_
  refine g_iconst dX8_add_28 (4 : Int32) (by decide) ?_
  obtain ⟨h10, hp⟩ := hp
  refine g_callN (rest := []) s_X8_42 rfl (c_X11_freePlace (E := E) (d := d - 1)   (by omega) (v.1 (b + 30) 6) (4 : Int32) v h10) rfl rfl (Nat.le_of_ble_eq_true rfl) (by omega) (by decide) (by decide) dX8_add_29 (adTI (fun sr11 h12 => ?_)) (axTI (fun e h12 => g_outs rfl rfl (qe (P := gqTIV Q) h12 hQ)))
  have hQ := ql (P := gqTIV Q) h12 hQ
  have hp := hp sr11 h12
  exact w_X8_add_32 b hb hd    x1 x2 x3 sr11 v hp hQ
def f_X8_add_15 (b : Nat) (x1 : Int32) (x2 : Int32) (x3 : Int32) (s0 : Int32) (v : gV) : (Int32 ⊕ String) × gV := Sum.elim (fun (sr8 : Int32) => f_X8_add_23 b  x1 x2 x3 sr8 v) (fun (e : String) => (Sum.inr e, v)) (f_X11_checkedNumber x3 (1 : Int32) (99 : Int32) v)
def p_X8_add_15 (b : Nat) (x1 : Int32) (x2 : Int32) (x3 : Int32) (s0 : Int32) (v : gV) : Prop := (p_X11_checkedNumber x3 (1 : Int32) (99 : Int32) v) ∧ (∀ (sr8 : Int32), (f_X11_checkedNumber x3 (1 : Int32) (99 : Int32) v) = Sum.inl sr8 → (p_X8_add_23 b   x1 x2 x3 sr8 v))
set_option maxHeartbeats 4000000 in
set_option maxRecDepth 100000 in
theorem w_X8_add_15 {E : gE} {d : Nat} {Q : gO → gS → Prop} (b : Nat) (hb : isBk b) (hd : 8 ≤ d) (x1 : Int32) (x2 : Int32) (x3 : Int32) (s0 : Int32) (v : gV) (hp : p_X8_add_15 b   x1 x2 x3 s0 v) (hQ : gqTIV Q (f_X8_add_15 b  x1 x2 x3 s0 v)) : gG E m_X8_add d Q 2 12 (rS v) 15 [(0, .ref (gX E + (b + 30))), (1, .int x1), (2, .int x2), (3, .int x3)] [.int s0] := by
  refine g_pop dX8_add_15 rfl ?_
  refine g_iload_n 3 dX8_add_16 rfl ?_
  refine g_iconst dX8_add_17 (1 : Int32) (by decide) ?_
  refine g_bipush dX8_add_18 (99 : Int32) (by decide) ?_
  obtain ⟨h7, hp⟩ := hp
  refine g_callN (rest := []) s_X8_38 rfl (c_X11_checkedNumber (E := E) (d := d - 1)   (by omega) x3 (1 : Int32) (99 : Int32) v h7) rfl rfl (Nat.le_of_ble_eq_true rfl) (by omega) (by decide) (by decide) dX8_add_20 (adTI (fun sr8 h9 => ?_)) (axTI (fun e h9 => g_outs rfl rfl (qe (P := gqTIV Q) h9 hQ)))
  have hQ := ql (P := gqTIV Q) h9 hQ
  have hp := hp sr8 h9
  exact w_X8_add_23 b hb hd    x1 x2 x3 sr8 v hp hQ
def f_X8_add_7 (b : Nat) (x1 : Int32) (x2 : Int32) (x3 : Int32) (s0 : Int32) (v : gV) : (Int32 ⊕ String) × gV := Sum.elim (fun (sr5 : Int32) => f_X8_add_15 b  x1 x2 x3 sr5 v) (fun (e : String) => (Sum.inr e, v)) (f_X11_checkedNumber x2 (1 : Int32) (30 : Int32) v)
def p_X8_add_7 (b : Nat) (x1 : Int32) (x2 : Int32) (x3 : Int32) (s0 : Int32) (v : gV) : Prop := (p_X11_checkedNumber x2 (1 : Int32) (30 : Int32) v) ∧ (∀ (sr5 : Int32), (f_X11_checkedNumber x2 (1 : Int32) (30 : Int32) v) = Sum.inl sr5 → (p_X8_add_15 b   x1 x2 x3 sr5 v))
set_option maxHeartbeats 4000000 in
set_option maxRecDepth 100000 in
theorem w_X8_add_7 {E : gE} {d : Nat} {Q : gO → gS → Prop} (b : Nat) (hb : isBk b) (hd : 8 ≤ d) (x1 : Int32) (x2 : Int32) (x3 : Int32) (s0 : Int32) (v : gV) (hp : p_X8_add_7 b   x1 x2 x3 s0 v) (hQ : gqTIV Q (f_X8_add_7 b  x1 x2 x3 s0 v)) : gG E m_X8_add d Q 3 18 (rS v) 7 [(0, .ref (gX E + (b + 30))), (1, .int x1), (2, .int x2), (3, .int x3)] [.int s0] := by
  refine g_pop dX8_add_7 rfl ?_
  refine g_iload_n 2 dX8_add_8 rfl ?_
  refine g_iconst dX8_add_9 (1 : Int32) (by decide) ?_
  refine g_bipush dX8_add_10 (30 : Int32) (by decide) ?_
  obtain ⟨h4, hp⟩ := hp
  refine g_callN (rest := []) s_X8_38 rfl (c_X11_checkedNumber (E := E) (d := d - 1)   (by omega) x2 (1 : Int32) (30 : Int32) v h4) rfl rfl (Nat.le_of_ble_eq_true rfl) (by omega) (by decide) (by decide) dX8_add_12 (adTI (fun sr5 h6 => ?_)) (axTI (fun e h6 => g_outs rfl rfl (qe (P := gqTIV Q) h6 hQ)))
  have hQ := ql (P := gqTIV Q) h6 hQ
  have hp := hp sr5 h6
  exact w_X8_add_15 b hb hd    x1 x2 x3 sr5 v hp hQ
def f_X8_add_0 (b : Nat) (x1 : Int32) (x2 : Int32) (x3 : Int32) (v : gV) : (Int32 ⊕ String) × gV := Sum.elim (fun (sr2 : Int32) => f_X8_add_7 b  x1 x2 x3 sr2 v) (fun (e : String) => (Sum.inr e, v)) (f_X11_checkedNumber x1 (0 : Int32) (29 : Int32) v)
def p_X8_add_0 (b : Nat) (x1 : Int32) (x2 : Int32) (x3 : Int32) (v : gV) : Prop := (p_X11_checkedNumber x1 (0 : Int32) (29 : Int32) v) ∧ (∀ (sr2 : Int32), (f_X11_checkedNumber x1 (0 : Int32) (29 : Int32) v) = Sum.inl sr2 → (p_X8_add_7 b   x1 x2 x3 sr2 v))
set_option maxHeartbeats 4000000 in
set_option maxRecDepth 100000 in
theorem w_X8_add_0 {E : gE} {d : Nat} {Q : gO → gS → Prop} (b : Nat) (hb : isBk b) (hd : 8 ≤ d) (x1 : Int32) (x2 : Int32) (x3 : Int32) (v : gV) (hp : p_X8_add_0 b   x1 x2 x3 v) (hQ : gqTIV Q (f_X8_add_0 b  x1 x2 x3 v)) : gG E m_X8_add d Q 4 24 (rS v) 0 [(0, .ref (gX E + (b + 30))), (1, .int x1), (2, .int x2), (3, .int x3)] [] := by
  refine g_iload_n 1 dX8_add_0 rfl ?_
  refine g_iconst dX8_add_1 (0 : Int32) (by decide) ?_
  refine g_bipush dX8_add_2 (29 : Int32) (by decide) ?_
  obtain ⟨h1, hp⟩ := hp
  refine g_callN (rest := []) s_X8_38 rfl (c_X11_checkedNumber (E := E) (d := d - 1)   (by omega) x1 (0 : Int32) (29 : Int32) v h1) rfl rfl (Nat.le_of_ble_eq_true rfl) (by omega) (by decide) (by decide) dX8_add_4 (adTI (fun sr2 h3 => ?_)) (axTI (fun e h3 => g_outs rfl rfl (qe (P := gqTIV Q) h3 hQ)))
  have hQ := ql (P := gqTIV Q) h3 hQ
  have hp := hp sr2 h3
  exact w_X8_add_7 b hb hd    x1 x2 x3 sr2 v hp hQ
def f_X8_add (b : Nat) (x1 : Int32) (x2 : Int32) (x3 : Int32) (v : gV) : (Int32 ⊕ String) × gV := f_X8_add_0 b x1 x2 x3 v
def p_X8_add (b : Nat) (x1 : Int32) (x2 : Int32) (x3 : Int32) (v : gV) : Prop := p_X8_add_0 b x1 x2 x3 v
theorem c_X8_add {E : gE} {d : Nat} (b : Nat) (hb : isBk b) (hd : 8 ≤ d) (x1 : Int32) (x2 : Int32) (x3 : Int32) (v : gV) (hp : p_X8_add b x1 x2 x3 v) : CT E m_X8_add d 4 24 [.ref (gX E + (b + 30)), .int x1, .int x2, .int x3] (rS v) (Cq (gOi (f_X8_add b x1 x2 x3 v).1) (f_X8_add b x1 x2 x3 v).2) := CT.of ok_X8_add rfl (Nat.le_of_ble_eq_true rfl) (w_X8_add_0 b hb hd x1 x2 x3 v hp ⟨rfl, rfl⟩)
def f_X8_remove_42 (b : Nat)  (v : gV) : gV := v
def p_X8_remove_42 (b : Nat)  (v : gV) : Prop := True
set_option maxHeartbeats 4000000 in
set_option maxRecDepth 100000 in
theorem w_X8_remove_42 {E : gE} {d : Nat} {Q : gO → gS → Prop} (b : Nat) (hb : isBk b) (hd : 1 ≤ d)  (v : gV) (hp : p_X8_remove_42 b    v) (hQ : gqV Q (f_X8_remove_42 b   v)) : gG E m_X8_remove d Q 0 0 (rS v) 42 [] [] := by
  exact g_vret rfl dX8_remove_42 hQ
def f_X8_remove_32 (b : Nat)  (v : gV) : gV := f_X8_remove_42 b   (vM v (b + 30) 6 ((v.1 (b + 30) 6) - (1 : Int32)))
def p_X8_remove_32 (b : Nat)  (v : gV) : Prop := p_X8_remove_42 b    (vM v (b + 30) 6 ((v.1 (b + 30) 6) - (1 : Int32)))
set_option maxHeartbeats 4000000 in
set_option maxRecDepth 100000 in
theorem w_X8_remove_32 {E : gE} {d : Nat} {Q : gO → gS → Prop} (b : Nat) (hb : isBk b) (hd : 1 ≤ d)  (v : gV) (hp : p_X8_remove_32 b    v) (hQ : gqV Q (f_X8_remove_32 b   v)) : gG E m_X8_remove d Q 0 0 (rS v) 32 [(0, .ref (gX E + (b + 30)))] [] := by
  refine g_aload_n 0 dX8_remove_32 rfl ?_
  refine g_dup dX8_remove_33 rfl ?_
  refine r_get (.int (v.1 (b + 30) 6)) f_X8_34_X8 rfl (kb_30 hb) (lt_b hb (by decide)) dX8_remove_34 (fun _ => rfl) ?_
  refine g_iconst dX8_remove_37 (1 : Int32) (by decide) ?_
  refine g_isub dX8_remove_38 ?_
  refine r_put pf_X8_34_X8 rfl (kb_30 hb) (by decide) (by decide) rfl (lt_b hb (by decide)) rfl rfl dX8_remove_39 ?_
  refine g_lv (lv' := []) [] rfl ?_
  exact w_X8_remove_42 b hb hd     (vM v (b + 30) 6 ((v.1 (b + 30) 6) - (1 : Int32))) hp hQ
def f_X8_remove_24 (b : Nat) (x1 : Int32) (v : gV) : gV := f_X8_remove_32 b   (f_X11_closeGap (b + 34) 4 x1 v)
def p_X8_remove_24 (b : Nat) (x1 : Int32) (v : gV) : Prop := (p_X11_closeGap (b + 34) 4 x1 v) ∧ (p_X8_remove_32 b    (f_X11_closeGap (b + 34) 4 x1 v))
set_option maxHeartbeats 4000000 in
set_option maxRecDepth 100000 in
theorem w_X8_remove_24 {E : gE} {d : Nat} {Q : gO → gS → Prop} (b : Nat) (hb : isBk b) (hd : 1 ≤ d) (x1 : Int32) (v : gV) (hp : p_X8_remove_24 b   x1 v) (hQ : gqV Q (f_X8_remove_24 b  x1 v)) : gG E m_X8_remove d Q 0 0 (rS v) 24 [(0, .ref (gX E + (b + 30))), (1, .int x1)] [] := by
  refine g_aload_n 0 dX8_remove_24 rfl ?_
  refine r_get (.ref (gX E + (b + 34))) f_X8_21_X8 rfl (kb_30 hb) (lt_b hb (by decide)) dX8_remove_25 (fun _ => rfl) ?_
  refine g_iload_n 1 dX8_remove_28 rfl ?_
  obtain ⟨h4, hp⟩ := hp
  refine g_callN (rest := []) s_X8_46 rfl (c_X11_closeGap (E := E) (d := d - 1) (b + 34) 4 (by decide) (kb_34 hb) (lt_b hb (by decide)) (by omega) x1 v h4) rfl rfl (Nat.le_of_ble_eq_true rfl) (by omega) (by decide) (by decide) dX8_remove_29 (adN ?_) axN
  refine g_lv (lv' := [(0, .ref (gX E + (b + 30)))]) [0] rfl ?_
  exact w_X8_remove_32 b hb hd     (f_X11_closeGap (b + 34) 4 x1 v) hp hQ
def f_X8_remove_16 (b : Nat) (x1 : Int32) (v : gV) : gV := f_X8_remove_24 b  x1 (f_X11_closeGap (b + 33) 4 x1 v)
def p_X8_remove_16 (b : Nat) (x1 : Int32) (v : gV) : Prop := (p_X11_closeGap (b + 33) 4 x1 v) ∧ (p_X8_remove_24 b   x1 (f_X11_closeGap (b + 33) 4 x1 v))
set_option maxHeartbeats 4000000 in
set_option maxRecDepth 100000 in
theorem w_X8_remove_16 {E : gE} {d : Nat} {Q : gO → gS → Prop} (b : Nat) (hb : isBk b) (hd : 1 ≤ d) (x1 : Int32) (v : gV) (hp : p_X8_remove_16 b   x1 v) (hQ : gqV Q (f_X8_remove_16 b  x1 v)) : gG E m_X8_remove d Q 0 0 (rS v) 16 [(0, .ref (gX E + (b + 30))), (1, .int x1)] [] := by
  refine g_aload_n 0 dX8_remove_16 rfl ?_
  refine r_get (.ref (gX E + (b + 33))) f_X8_18_X8 rfl (kb_30 hb) (lt_b hb (by decide)) dX8_remove_17 (fun _ => rfl) ?_
  refine g_iload_n 1 dX8_remove_20 rfl ?_
  obtain ⟨h3, hp⟩ := hp
  refine g_callN (rest := []) s_X8_46 rfl (c_X11_closeGap (E := E) (d := d - 1) (b + 33) 4 (by decide) (kb_33 hb) (lt_b hb (by decide)) (by omega) x1 v h3) rfl rfl (Nat.le_of_ble_eq_true rfl) (by omega) (by decide) (by decide) dX8_remove_21 (adN ?_) axN
  exact w_X8_remove_24 b hb hd    x1 (f_X11_closeGap (b + 33) 4 x1 v) hp hQ
def f_X8_remove_8 (b : Nat) (x1 : Int32) (v : gV) : gV := f_X8_remove_16 b  x1 (f_X11_closeGap (b + 32) 4 x1 v)
def p_X8_remove_8 (b : Nat) (x1 : Int32) (v : gV) : Prop := (p_X11_closeGap (b + 32) 4 x1 v) ∧ (p_X8_remove_16 b   x1 (f_X11_closeGap (b + 32) 4 x1 v))
set_option maxHeartbeats 4000000 in
set_option maxRecDepth 100000 in
theorem w_X8_remove_8 {E : gE} {d : Nat} {Q : gO → gS → Prop} (b : Nat) (hb : isBk b) (hd : 1 ≤ d) (x1 : Int32) (v : gV) (hp : p_X8_remove_8 b   x1 v) (hQ : gqV Q (f_X8_remove_8 b  x1 v)) : gG E m_X8_remove d Q 0 0 (rS v) 8 [(0, .ref (gX E + (b + 30))), (1, .int x1)] [] := by
  refine g_aload_n 0 dX8_remove_8 rfl ?_
  refine r_get (.ref (gX E + (b + 32))) f_X8_15_X8 rfl (kb_30 hb) (lt_b hb (by decide)) dX8_remove_9 (fun _ => rfl) ?_
  refine g_iload_n 1 dX8_remove_12 rfl ?_
  obtain ⟨h2, hp⟩ := hp
  refine g_callN (rest := []) s_X8_46 rfl (c_X11_closeGap (E := E) (d := d - 1) (b + 32) 4 (by decide) (kb_32 hb) (lt_b hb (by decide)) (by omega) x1 v h2) rfl rfl (Nat.le_of_ble_eq_true rfl) (by omega) (by decide) (by decide) dX8_remove_13 (adN ?_) axN
  exact w_X8_remove_16 b hb hd    x1 (f_X11_closeGap (b + 32) 4 x1 v) hp hQ
def f_X8_remove_0 (b : Nat) (x1 : Int32) (v : gV) : gV := f_X8_remove_8 b  x1 (f_X11_closeGap (b + 31) 4 x1 v)
def p_X8_remove_0 (b : Nat) (x1 : Int32) (v : gV) : Prop := (p_X11_closeGap (b + 31) 4 x1 v) ∧ (p_X8_remove_8 b   x1 (f_X11_closeGap (b + 31) 4 x1 v))
set_option maxHeartbeats 4000000 in
set_option maxRecDepth 100000 in
theorem w_X8_remove_0 {E : gE} {d : Nat} {Q : gO → gS → Prop} (b : Nat) (hb : isBk b) (hd : 1 ≤ d) (x1 : Int32) (v : gV) (hp : p_X8_remove_0 b   x1 v) (hQ : gqV Q (f_X8_remove_0 b  x1 v)) : gG E m_X8_remove d Q 0 0 (rS v) 0 [(0, .ref (gX E + (b + 30))), (1, .int x1)] [] := by
  refine g_aload_n 0 dX8_remove_0 rfl ?_
  refine r_get (.ref (gX E + (b + 31))) f_X8_9_X8 rfl (kb_30 hb) (lt_b hb (by decide)) dX8_remove_1 (fun _ => rfl) ?_
  refine g_iload_n 1 dX8_remove_4 rfl ?_
  obtain ⟨h1, hp⟩ := hp
  refine g_callN (rest := []) s_X8_46 rfl (c_X11_closeGap (E := E) (d := d - 1) (b + 31) 4 (by decide) (kb_31 hb) (lt_b hb (by decide)) (by omega) x1 v h1) rfl rfl (Nat.le_of_ble_eq_true rfl) (by omega) (by decide) (by decide) dX8_remove_5 (adN ?_) axN
  exact w_X8_remove_8 b hb hd    x1 (f_X11_closeGap (b + 31) 4 x1 v) hp hQ
def f_X8_remove (b : Nat) (x1 : Int32) (v : gV) : gV := f_X8_remove_0 b x1 v
def p_X8_remove (b : Nat) (x1 : Int32) (v : gV) : Prop := p_X8_remove_0 b x1 v
theorem c_X8_remove {E : gE} {d : Nat} (b : Nat) (hb : isBk b) (hd : 1 ≤ d) (x1 : Int32) (v : gV) (hp : p_X8_remove b x1 v) : CT E m_X8_remove d 0 0 [.ref (gX E + (b + 30)), .int x1] (rS v) (Cq (.inl none) (f_X8_remove b x1 v)) := CT.of ok_X8_remove rfl (Nat.le_of_ble_eq_true rfl) (w_X8_remove_0 b hb hd x1 v hp ⟨rfl, rfl⟩)
def f_X8_bearCoins_39 (b : Nat) (j2 : Nat) (j3 : Nat) (K3 : Int32 → Int32 → gV → gV)  (x1 : Int32) (x4 : Int32) (v : gV) : gV := K3 x1 (x4 + 1) v
def p_X8_bearCoins_39 (b : Nat) (j2 : Nat) (j3 : Nat) (K3 : Int32 → Int32 → gV → gV)  (PK3 : Int32 → Int32 → gV → Prop)  (x1 : Int32) (x4 : Int32) (v : gV) : Prop := PK3 x1 (x4 + 1) v
set_option maxHeartbeats 4000000 in
set_option maxRecDepth 100000 in
theorem w_X8_bearCoins_39 {E : gE} {d : Nat} {Q : gO → gS → Prop} (b : Nat) (j2 : Nat) (j3 : Nat) (hb : isBk b) (hk2 : kd j2 = (1, 4)) (hj2 : j2 < 572) (hk3 : kd j3 = (1, 4)) (hj3 : j3 < 572) (hd : 1 ≤ d) (K3 : Int32 → Int32 → gV → gV)  (PK3 : Int32 → Int32 → gV → Prop)  (hK3 : ∀ (x1 : Int32) (x4 : Int32) (v : gV), PK3 x1 x4 v → gqV Q (K3 x1 x4 v) → gG E m_X8_bearCoins d Q 0 0 (rS v) 3 [(0, .ref (gX E + (b + 30))), (1, .int x1), (2, .ref (gX E + j2)), (3, .ref (gX E + j3)), (4, .int x4)] [])  (x1 : Int32) (x4 : Int32) (v : gV) (hp : p_X8_bearCoins_39 b j2 j3 K3 PK3 x1 x4 v) (hQ : gqV Q (f_X8_bearCoins_39 b j2 j3 K3 x1 x4 v)) : gG E m_X8_bearCoins d Q 0 0 (rS v) 39 [(0, .ref (gX E + (b + 30))), (1, .int x1), (2, .ref (gX E + j2)), (3, .ref (gX E + j3)), (4, .int x4)] [] := by
  refine g_iinc 4 (x4 + 1) [(4, .int (x4 + 1)), (0, .ref (gX E + (b + 30))), (1, .int x1), (2, .ref (gX E + j2)), (3, .ref (gX E + j3))] dX8_bearCoins_39 rfl rfl (by decide) rfl ?_
  refine g_goto 3 dX8_bearCoins_42 (by decide) ?_
  refine g_lv (lv' := [(0, .ref (gX E + (b + 30))), (1, .int x1), (2, .ref (gX E + j2)), (3, .ref (gX E + j3)), (4, .int (x4 + 1))]) [1, 2, 3, 4, 0] rfl ?_
  exact hK3 x1 (x4 + 1) v hp hQ
def f_X8_bearCoins_31 (b : Nat) (j2 : Nat) (j3 : Nat) (K3 : Int32 → Int32 → gV → gV)  (x1 : Int32) (x4 : Int32) (x5 : Int32) (v : gV) : gV := f_X8_bearCoins_39 b j2 j3 K3 x1 x4 (vM v j3 x5.toNatClampNeg ((v.1 j3 x5.toNatClampNeg) + (1 : Int32)))
def p_X8_bearCoins_31 (b : Nat) (j2 : Nat) (j3 : Nat) (K3 : Int32 → Int32 → gV → gV)  (PK3 : Int32 → Int32 → gV → Prop)  (x1 : Int32) (x4 : Int32) (x5 : Int32) (v : gV) : Prop := (vp_in x5 4) ∧ ((vp_in x5 4) ∧ (p_X8_bearCoins_39 b j2 j3 K3 PK3 x1 x4 (vM v j3 x5.toNatClampNeg ((v.1 j3 x5.toNatClampNeg) + (1 : Int32)))))
set_option maxHeartbeats 4000000 in
set_option maxRecDepth 100000 in
theorem w_X8_bearCoins_31 {E : gE} {d : Nat} {Q : gO → gS → Prop} (b : Nat) (j2 : Nat) (j3 : Nat) (hb : isBk b) (hk2 : kd j2 = (1, 4)) (hj2 : j2 < 572) (hk3 : kd j3 = (1, 4)) (hj3 : j3 < 572) (hd : 1 ≤ d) (K3 : Int32 → Int32 → gV → gV)  (PK3 : Int32 → Int32 → gV → Prop)  (hK3 : ∀ (x1 : Int32) (x4 : Int32) (v : gV), PK3 x1 x4 v → gqV Q (K3 x1 x4 v) → gG E m_X8_bearCoins d Q 0 0 (rS v) 3 [(0, .ref (gX E + (b + 30))), (1, .int x1), (2, .ref (gX E + j2)), (3, .ref (gX E + j3)), (4, .int x4)] [])  (x1 : Int32) (x4 : Int32) (x5 : Int32) (v : gV) (hp : p_X8_bearCoins_31 b j2 j3 K3 PK3 x1 x4 x5 v) (hQ : gqV Q (f_X8_bearCoins_31 b j2 j3 K3 x1 x4 x5 v)) : gG E m_X8_bearCoins d Q 0 0 (rS v) 31 [(0, .ref (gX E + (b + 30))), (1, .int x1), (2, .ref (gX E + j2)), (3, .ref (gX E + j3)), (4, .int x4), (5, .int x5)] [] := by
  refine g_aload_n 3 dX8_bearCoins_31 rfl ?_
  refine g_iload 5 dX8_bearCoins_32 rfl ?_
  refine g_dup2 dX8_bearCoins_34 rfl rfl ?_
  obtain ⟨h6, hp⟩ := hp
  refine g_iald hk3 hj3 h6 dX8_bearCoins_35 ?_
  refine g_iconst dX8_bearCoins_36 (1 : Int32) (by decide) ?_
  refine g_iadd dX8_bearCoins_37 ?_
  obtain ⟨h7, hp⟩ := hp
  refine r_iast hk3 hj3 h7 dX8_bearCoins_38 ?_
  refine g_lv (lv' := [(0, .ref (gX E + (b + 30))), (1, .int x1), (2, .ref (gX E + j2)), (3, .ref (gX E + j3)), (4, .int x4)]) [0, 1, 2, 3, 4] rfl ?_
  exact w_X8_bearCoins_39 b j2 j3 hb hk2 hj2 hk3 hj3 hd K3 PK3 hK3 x1 x4 (vM v j3 x5.toNatClampNeg ((v.1 j3 x5.toNatClampNeg) + (1 : Int32))) hp hQ
def f_X8_bearCoins_3 (b : Nat) (j2 : Nat) (j3 : Nat) : Nat → Int32 → Int32 → gV → gV
  | 0, _, _, v => v
  | n + 1, x1, x4, v => if x1 < x4 then v else (if (f_X8_treatyOf b j2 x4 v) < 0 then (f_X8_bearCoins_39 b j2 j3 (fun x1 x4 v => f_X8_bearCoins_3 b j2 j3  n x1 x4 v) x1 x4 v) else (f_X8_bearCoins_31 b j2 j3 (fun x1 x4 v => f_X8_bearCoins_3 b j2 j3  n x1 x4 v) x1 x4 (f_X8_treatyOf b j2 x4 v) (vM v j2 (f_X8_treatyOf b j2 x4 v).toNatClampNeg ((v.1 j2 (f_X8_treatyOf b j2 x4 v).toNatClampNeg) - (1 : Int32)))))
def p_X8_bearCoins_3 (b : Nat) (j2 : Nat) (j3 : Nat) : Nat → Int32 → Int32 → gV → Prop
  | 0, _, _, _ => False
  | n + 1, x1, x4, v => ((x1 < x4) → (True)) ∧ (¬ (x1 < x4) → ((p_X8_treatyOf b j2 x4 v) ∧ ((((f_X8_treatyOf b j2 x4 v) < 0) → (p_X8_bearCoins_39 b j2 j3 (fun x1 x4 v => f_X8_bearCoins_3 b j2 j3  n x1 x4 v) (fun x1 x4 v => p_X8_bearCoins_3 b j2 j3   n x1 x4 v) x1 x4 v)) ∧ (¬ ((f_X8_treatyOf b j2 x4 v) < 0) → ((vp_in (f_X8_treatyOf b j2 x4 v) 4) ∧ ((vp_in (f_X8_treatyOf b j2 x4 v) 4) ∧ (p_X8_bearCoins_31 b j2 j3 (fun x1 x4 v => f_X8_bearCoins_3 b j2 j3  n x1 x4 v) (fun x1 x4 v => p_X8_bearCoins_3 b j2 j3   n x1 x4 v) x1 x4 (f_X8_treatyOf b j2 x4 v) (vM v j2 (f_X8_treatyOf b j2 x4 v).toNatClampNeg ((v.1 j2 (f_X8_treatyOf b j2 x4 v).toNatClampNeg) - (1 : Int32))))))))))
set_option maxHeartbeats 4000000 in
set_option maxRecDepth 100000 in
theorem w_X8_bearCoins_3 {E : gE} {d : Nat} {Q : gO → gS → Prop} (b : Nat) (j2 : Nat) (j3 : Nat) (hb : isBk b) (hk2 : kd j2 = (1, 4)) (hj2 : j2 < 572) (hk3 : kd j3 = (1, 4)) (hj3 : j3 < 572) (hd : 1 ≤ d) : ∀ (n : Nat) (x1 : Int32) (x4 : Int32) (v : gV), p_X8_bearCoins_3 b j2 j3   n x1 x4 v → gqV Q (f_X8_bearCoins_3 b j2 j3  n x1 x4 v) → gG E m_X8_bearCoins d Q 0 0 (rS v) 3 [(0, .ref (gX E + (b + 30))), (1, .int x1), (2, .ref (gX E + j2)), (3, .ref (gX E + j3)), (4, .int x4)] [] := by
  intro n
  induction n with
  | zero => intro x1 x4 v hp; exact hp.elim
  | succ n ih =>
    intro x1 x4 v hp hQ
    refine g_iload 4 dX8_bearCoins_3 rfl ?_
    refine g_iload_n 1 dX8_bearCoins_5 rfl ?_
    refine g_icmp_gt 45 dX8_bearCoins_6 (by decide) (fun h1 => ?_) (fun h1 => ?_)
    · have hQ := qp (P := gqV Q) h1 hQ
      have hp := hp.1 h1
      exact g_vret rfl dX8_bearCoins_45 hQ
    · have hQ := qn (P := gqV Q) h1 hQ
      have hp := hp.2 h1
      refine g_aload_n 0 dX8_bearCoins_9 rfl ?_
      refine g_iload 4 dX8_bearCoins_10 rfl ?_
      refine g_aload_n 2 dX8_bearCoins_12 rfl ?_
      obtain ⟨h2, hp⟩ := hp
      refine g_callV (rest := []) s_X8_63_X8 rfl (c_X8_treatyOf (E := E) (d := d - 1) b j2 hb hk2 hj2 (by omega) x4 v h2) (kb_30 hb) (lt_b hb (by decide)) rfl rfl (Nat.le_of_ble_eq_true rfl) (by omega) (by decide) (by decide) dX8_bearCoins_13 (adV ?_) axN
      refine g_istore [(5, .int ((f_X8_treatyOf b j2 x4 v))), (0, .ref (gX E + (b + 30))), (1, .int x1), (2, .ref (gX E + j2)), (3, .ref (gX E + j3)), (4, .int x4)] dX8_bearCoins_16 (by decide) rfl ?_
      refine g_iload 0 dX8_bearCoins_18 rfl ?_
      refine g_if_lt 39 dX8_bearCoins_20 (by decide) (fun h3 => ?_) (fun h3 => ?_)
      · have hQ := qp (P := gqV Q) h3 hQ
        have hp := hp.1 h3
        refine g_lv (lv' := [(0, .ref (gX E + (b + 30))), (1, .int x1), (2, .ref (gX E + j2)), (3, .ref (gX E + j3)), (4, .int x4)]) [1, 2, 3, 4, 5] rfl ?_
        exact w_X8_bearCoins_39 b j2 j3 hb hk2 hj2 hk3 hj3 hd (fun x1 x4 v => f_X8_bearCoins_3 b j2 j3  n x1 x4 v) (fun x1 x4 v => p_X8_bearCoins_3 b j2 j3   n x1 x4 v) ih x1 x4 v hp hQ
      · have hQ := qn (P := gqV Q) h3 hQ
        have hp := hp.2 h3
        refine g_aload_n 3 dX8_bearCoins_23 rfl ?_
        refine g_iload 0 dX8_bearCoins_24 rfl ?_
        refine g_dup2 dX8_bearCoins_26 rfl rfl ?_
        obtain ⟨h4, hp⟩ := hp
        refine g_iald hk2 hj2 h4 dX8_bearCoins_27 ?_
        refine g_iconst dX8_bearCoins_28 (1 : Int32) (by decide) ?_
        refine g_isub dX8_bearCoins_29 ?_
        obtain ⟨h5, hp⟩ := hp
        refine r_iast hk2 hj2 h5 dX8_bearCoins_30 ?_
        refine g_lv (lv' := [(0, .ref (gX E + (b + 30))), (1, .int x1), (2, .ref (gX E + j2)), (3, .ref (gX E + j3)), (4, .int x4), (5, .int ((f_X8_treatyOf b j2 x4 v)))]) [1, 2, 3, 4, 5, 0] rfl ?_
        exact w_X8_bearCoins_31 b j2 j3 hb hk2 hj2 hk3 hj3 hd (fun x1 x4 v => f_X8_bearCoins_3 b j2 j3  n x1 x4 v) (fun x1 x4 v => p_X8_bearCoins_3 b j2 j3   n x1 x4 v) ih x1 x4 (f_X8_treatyOf b j2 x4 v) (vM v j2 (f_X8_treatyOf b j2 x4 v).toNatClampNeg ((v.1 j2 (f_X8_treatyOf b j2 x4 v).toNatClampNeg) - (1 : Int32))) hp hQ
def f_X8_bearCoins_0 (b : Nat) (j2 : Nat) (j3 : Nat) (x1 : Int32) (v : gV) : gV := f_X8_bearCoins_3 b j2 j3  5000 x1 (1 : Int32) v
def p_X8_bearCoins_0 (b : Nat) (j2 : Nat) (j3 : Nat) (x1 : Int32) (v : gV) : Prop := p_X8_bearCoins_3 b j2 j3   5000 x1 (1 : Int32) v
set_option maxHeartbeats 4000000 in
set_option maxRecDepth 100000 in
theorem w_X8_bearCoins_0 {E : gE} {d : Nat} {Q : gO → gS → Prop} (b : Nat) (j2 : Nat) (j3 : Nat) (hb : isBk b) (hk2 : kd j2 = (1, 4)) (hj2 : j2 < 572) (hk3 : kd j3 = (1, 4)) (hj3 : j3 < 572) (hd : 1 ≤ d) (x1 : Int32) (v : gV) (hp : p_X8_bearCoins_0 b j2 j3   x1 v) (hQ : gqV Q (f_X8_bearCoins_0 b j2 j3  x1 v)) : gG E m_X8_bearCoins d Q 0 0 (rS v) 0 [(0, .ref (gX E + (b + 30))), (1, .int x1), (2, .ref (gX E + j2)), (3, .ref (gX E + j3))] [] := by
  refine g_iconst dX8_bearCoins_0 (1 : Int32) (by decide) ?_
  refine g_istore [(4, .int ((1 : Int32))), (0, .ref (gX E + (b + 30))), (1, .int x1), (2, .ref (gX E + j2)), (3, .ref (gX E + j3))] dX8_bearCoins_1 (by decide) rfl ?_
  refine g_lv (lv' := [(0, .ref (gX E + (b + 30))), (1, .int x1), (2, .ref (gX E + j2)), (3, .ref (gX E + j3)), (4, .int ((1 : Int32)))]) [1, 2, 3, 4, 0] rfl ?_
  exact w_X8_bearCoins_3 b j2 j3 hb hk2 hj2 hk3 hj3 hd    5000 x1 (1 : Int32) v hp hQ
def f_X8_bearCoins (b : Nat) (j2 : Nat) (j3 : Nat) (x1 : Int32) (v : gV) : gV := f_X8_bearCoins_0 b j2 j3 x1 v
def p_X8_bearCoins (b : Nat) (j2 : Nat) (j3 : Nat) (x1 : Int32) (v : gV) : Prop := p_X8_bearCoins_0 b j2 j3 x1 v
theorem c_X8_bearCoins {E : gE} {d : Nat} (b : Nat) (j2 : Nat) (j3 : Nat) (hb : isBk b) (hk2 : kd j2 = (1, 4)) (hj2 : j2 < 572) (hk3 : kd j3 = (1, 4)) (hj3 : j3 < 572) (hd : 1 ≤ d) (x1 : Int32) (v : gV) (hp : p_X8_bearCoins b j2 j3 x1 v) : CT E m_X8_bearCoins d 0 0 [.ref (gX E + (b + 30)), .int x1, .ref (gX E + j2), .ref (gX E + j3)] (rS v) (Cq (.inl none) (f_X8_bearCoins b j2 j3 x1 v)) := CT.of ok_X8_bearCoins rfl (Nat.le_of_ble_eq_true rfl) (w_X8_bearCoins_0 b j2 j3 hb hk2 hj2 hk3 hj3 hd x1 v hp ⟨rfl, rfl⟩)
def f_X8_countByRuns_71 (b : Nat) (K15 : Int32 → Int32 → Int32 → gV → Int32 × gV)  (x1 : Int32) (x2 : Int32) (x3 : Int32) (x5 : Int32) (v : gV) : Int32 × gV := K15 x1 x2 ((if x3 < x5 then x5 else x3) + (1 : Int32)) v
def p_X8_countByRuns_71 (b : Nat) (K15 : Int32 → Int32 → Int32 → gV → Int32 × gV)  (PK15 : Int32 → Int32 → Int32 → gV → Prop)  (x1 : Int32) (x2 : Int32) (x3 : Int32) (x5 : Int32) (v : gV) : Prop := PK15 x1 x2 ((if x3 < x5 then x5 else x3) + (1 : Int32)) v
set_option maxHeartbeats 4000000 in
set_option maxRecDepth 100000 in
theorem w_X8_countByRuns_71 {E : gE} {d : Nat} {Q : gO → gS → Prop} (b : Nat) (hb : isBk b) (hd : 3 ≤ d) (K15 : Int32 → Int32 → Int32 → gV → Int32 × gV)  (PK15 : Int32 → Int32 → Int32 → gV → Prop)  (hK15 : ∀ (x1 : Int32) (x2 : Int32) (x3 : Int32) (v : gV), PK15 x1 x2 x3 v → gqIV Q (K15 x1 x2 x3 v) → gG E m_X8_countByRuns d Q 0 0 (rS v) 15 [(0, .ref (gX E + (b + 30))), (1, .int x1), (2, .int x2), (3, .int x3)] [])  (x1 : Int32) (x2 : Int32) (x3 : Int32) (x5 : Int32) (v : gV) (hp : p_X8_countByRuns_71 b K15 PK15 x1 x2 x3 x5 v) (hQ : gqIV Q (f_X8_countByRuns_71 b K15 x1 x2 x3 x5 v)) : gG E m_X8_countByRuns d Q 0 0 (rS v) 71 [(0, .ref (gX E + (b + 30))), (1, .int x1), (2, .int x2), (3, .int x3), (5, .int x5)] [] := by
  refine g_iload_n 3 dX8_countByRuns_71 rfl ?_
  refine g_iload 4 dX8_countByRuns_72 rfl ?_
  refine r_mmax mw_X8_70 rfl (Nat.le_of_ble_eq_true rfl) (by omega) dX8_countByRuns_74 ?_
  refine g_iconst dX8_countByRuns_77 (1 : Int32) (by decide) ?_
  refine g_iadd dX8_countByRuns_78 ?_
  refine g_istore_n [(3, .int ((if x3 < x5 then x5 else x3) + (1 : Int32))), (0, .ref (gX E + (b + 30))), (1, .int x1), (2, .int x2), (5, .int x5)] dX8_countByRuns_79 rfl (by decide) rfl ?_
  refine g_goto 15 dX8_countByRuns_80 (by decide) ?_
  refine g_lv (lv' := [(0, .ref (gX E + (b + 30))), (1, .int x1), (2, .int x2), (3, .int ((if x3 < x5 then x5 else x3) + (1 : Int32)))]) [1, 2, 3, 0] rfl ?_
  exact hK15 x1 x2 ((if x3 < x5 then x5 else x3) + (1 : Int32)) v hp hQ
def f_X8_countByRuns_62 (b : Nat) (K15 : Int32 → Int32 → Int32 → gV → Int32 × gV)  (x1 : Int32) (x2 : Int32) (x3 : Int32) (x5 : Int32) (v : gV) : Int32 × gV := f_X8_countByRuns_71 b K15 x1 (x2 + ((x5 - x3) + (1 : Int32))) x3 x5 v
def p_X8_countByRuns_62 (b : Nat) (K15 : Int32 → Int32 → Int32 → gV → Int32 × gV)  (PK15 : Int32 → Int32 → Int32 → gV → Prop)  (x1 : Int32) (x2 : Int32) (x3 : Int32) (x5 : Int32) (v : gV) : Prop := p_X8_countByRuns_71 b K15 PK15 x1 (x2 + ((x5 - x3) + (1 : Int32))) x3 x5 v
set_option maxHeartbeats 4000000 in
set_option maxRecDepth 100000 in
theorem w_X8_countByRuns_62 {E : gE} {d : Nat} {Q : gO → gS → Prop} (b : Nat) (hb : isBk b) (hd : 3 ≤ d) (K15 : Int32 → Int32 → Int32 → gV → Int32 × gV)  (PK15 : Int32 → Int32 → Int32 → gV → Prop)  (hK15 : ∀ (x1 : Int32) (x2 : Int32) (x3 : Int32) (v : gV), PK15 x1 x2 x3 v → gqIV Q (K15 x1 x2 x3 v) → gG E m_X8_countByRuns d Q 0 0 (rS v) 15 [(0, .ref (gX E + (b + 30))), (1, .int x1), (2, .int x2), (3, .int x3)] [])  (x1 : Int32) (x2 : Int32) (x3 : Int32) (x5 : Int32) (v : gV) (hp : p_X8_countByRuns_62 b K15 PK15 x1 x2 x3 x5 v) (hQ : gqIV Q (f_X8_countByRuns_62 b K15 x1 x2 x3 x5 v)) : gG E m_X8_countByRuns d Q 0 0 (rS v) 62 [(0, .ref (gX E + (b + 30))), (1, .int x1), (2, .int x2), (3, .int x3), (5, .int x5)] [] := by
  refine g_iload_n 2 dX8_countByRuns_62 rfl ?_
  refine g_iload 4 dX8_countByRuns_63 rfl ?_
  refine g_iload_n 3 dX8_countByRuns_65 rfl ?_
  refine g_isub dX8_countByRuns_66 ?_
  refine g_iconst dX8_countByRuns_67 (1 : Int32) (by decide) ?_
  refine g_iadd dX8_countByRuns_68 ?_
  refine g_iadd dX8_countByRuns_69 ?_
  refine g_istore_n [(2, .int (x2 + ((x5 - x3) + (1 : Int32)))), (0, .ref (gX E + (b + 30))), (1, .int x1), (3, .int x3), (5, .int x5)] dX8_countByRuns_70 rfl (by decide) rfl ?_
  refine g_lv (lv' := [(0, .ref (gX E + (b + 30))), (1, .int x1), (2, .int (x2 + ((x5 - x3) + (1 : Int32)))), (3, .int x3), (5, .int x5)]) [1, 2, 0, 3, 4] rfl ?_
  exact w_X8_countByRuns_71 b hb hd K15 PK15 hK15 x1 (x2 + ((x5 - x3) + (1 : Int32))) x3 x5 v hp hQ
def f_X8_countByRuns_15 (b : Nat) : Nat → Int32 → Int32 → Int32 → gV → Int32 × gV
  | 0, _, _, _, v => (0, v)
  | n + 1, x1, x2, x3, v => if x1 < x3 then ((x2, v)) else (if (f_X8_treatyOf b (b + 35) x3 v) < 0 then (f_X8_countByRuns_71 b (fun x1 x2 x3 v => f_X8_countByRuns_15 b  n x1 x2 x3 v) x1 x2 x3 (f_X8_endOfRun b x3 (f_X8_treatyOf b (b + 35) x3 v) x1 v) v) else (f_X8_countByRuns_62 b (fun x1 x2 x3 v => f_X8_countByRuns_15 b  n x1 x2 x3 v) x1 x2 x3 (f_X8_endOfRun b x3 (f_X8_treatyOf b (b + 35) x3 v) x1 v) (vM v (b + 35) (f_X8_treatyOf b (b + 35) x3 v).toNatClampNeg ((v.1 (b + 35) (f_X8_treatyOf b (b + 35) x3 v).toNatClampNeg) - (((f_X8_endOfRun b x3 (f_X8_treatyOf b (b + 35) x3 v) x1 v) - x3) + (1 : Int32))))))
def p_X8_countByRuns_15 (b : Nat) : Nat → Int32 → Int32 → Int32 → gV → Prop
  | 0, _, _, _, _ => False
  | n + 1, x1, x2, x3, v => ((x1 < x3) → (True)) ∧ (¬ (x1 < x3) → ((p_X8_treatyOf b (b + 35) x3 v) ∧ ((p_X8_endOfRun b x3 (f_X8_treatyOf b (b + 35) x3 v) x1 v) ∧ ((((f_X8_treatyOf b (b + 35) x3 v) < 0) → (p_X8_countByRuns_71 b (fun x1 x2 x3 v => f_X8_countByRuns_15 b  n x1 x2 x3 v) (fun x1 x2 x3 v => p_X8_countByRuns_15 b   n x1 x2 x3 v) x1 x2 x3 (f_X8_endOfRun b x3 (f_X8_treatyOf b (b + 35) x3 v) x1 v) v)) ∧ (¬ ((f_X8_treatyOf b (b + 35) x3 v) < 0) → ((vp_in (f_X8_treatyOf b (b + 35) x3 v) 4) ∧ ((vp_in (f_X8_treatyOf b (b + 35) x3 v) 4) ∧ (p_X8_countByRuns_62 b (fun x1 x2 x3 v => f_X8_countByRuns_15 b  n x1 x2 x3 v) (fun x1 x2 x3 v => p_X8_countByRuns_15 b   n x1 x2 x3 v) x1 x2 x3 (f_X8_endOfRun b x3 (f_X8_treatyOf b (b + 35) x3 v) x1 v) (vM v (b + 35) (f_X8_treatyOf b (b + 35) x3 v).toNatClampNeg ((v.1 (b + 35) (f_X8_treatyOf b (b + 35) x3 v).toNatClampNeg) - (((f_X8_endOfRun b x3 (f_X8_treatyOf b (b + 35) x3 v) x1 v) - x3) + (1 : Int32))))))))))))
set_option maxHeartbeats 4000000 in
set_option maxRecDepth 100000 in
theorem w_X8_countByRuns_15 {E : gE} {d : Nat} {Q : gO → gS → Prop} (b : Nat) (hb : isBk b) (hd : 3 ≤ d) : ∀ (n : Nat) (x1 : Int32) (x2 : Int32) (x3 : Int32) (v : gV), p_X8_countByRuns_15 b   n x1 x2 x3 v → gqIV Q (f_X8_countByRuns_15 b  n x1 x2 x3 v) → gG E m_X8_countByRuns d Q 0 0 (rS v) 15 [(0, .ref (gX E + (b + 30))), (1, .int x1), (2, .int x2), (3, .int x3)] [] := by
  intro n
  induction n with
  | zero => intro x1 x2 x3 v hp; exact hp.elim
  | succ n ih =>
    intro x1 x2 x3 v hp hQ
    refine g_iload_n 3 dX8_countByRuns_15 rfl ?_
    refine g_iload_n 1 dX8_countByRuns_16 rfl ?_
    refine g_icmp_gt 83 dX8_countByRuns_17 (by decide) (fun h2 => ?_) (fun h2 => ?_)
    · have hQ := qp (P := gqIV Q) h2 hQ
      have hp := hp.1 h2
      refine g_iload_n 2 dX8_countByRuns_83 rfl ?_
      exact g_iret rfl dX8_countByRuns_84 hQ
    · have hQ := qn (P := gqIV Q) h2 hQ
      have hp := hp.2 h2
      refine g_aload_n 0 dX8_countByRuns_20 rfl ?_
      refine g_iload_n 3 dX8_countByRuns_21 rfl ?_
      refine g_aload_n 0 dX8_countByRuns_22 rfl ?_
      refine r_get (.ref (gX E + (b + 35))) f_X8_24_X8 rfl (kb_30 hb) (lt_b hb (by decide)) dX8_countByRuns_23 (fun _ => rfl) ?_
      obtain ⟨h3, hp⟩ := hp
      refine g_callV (rest := []) s_X8_63_X8 rfl (c_X8_treatyOf (E := E) (d := d - 1) b (b + 35) hb (kb_35 hb) (lt_b hb (by decide)) (by omega) x3 v h3) (kb_30 hb) (lt_b hb (by decide)) rfl rfl (Nat.le_of_ble_eq_true rfl) (by omega) (by decide) (by decide) dX8_countByRuns_26 (adV ?_) axN
      refine g_istore [(4, .int ((f_X8_treatyOf b (b + 35) x3 v))), (0, .ref (gX E + (b + 30))), (1, .int x1), (2, .int x2), (3, .int x3)] dX8_countByRuns_29 (by decide) rfl ?_
      refine g_aload_n 1 dX8_countByRuns_31 rfl ?_
      refine g_iload_n 4 dX8_countByRuns_32 rfl ?_
      refine g_iload 0 dX8_countByRuns_33 rfl ?_
      refine g_iload_n 2 dX8_countByRuns_35 rfl ?_
      obtain ⟨h4, hp⟩ := hp
      refine g_callV (rest := []) s_X8_67_X8 rfl (c_X8_endOfRun (E := E) (d := d - 1) b hb (by omega) x3 (f_X8_treatyOf b (b + 35) x3 v) x1 v h4) (kb_30 hb) (lt_b hb (by decide)) rfl rfl (Nat.le_of_ble_eq_true rfl) (by omega) (by decide) (by decide) dX8_countByRuns_36 (adV ?_) axN
      refine g_istore [(5, .int ((f_X8_endOfRun b x3 (f_X8_treatyOf b (b + 35) x3 v) x1 v))), (4, .int ((f_X8_treatyOf b (b + 35) x3 v))), (0, .ref (gX E + (b + 30))), (1, .int x1), (2, .int x2), (3, .int x3)] dX8_countByRuns_39 (by decide) rfl ?_
      refine g_iload 1 dX8_countByRuns_41 rfl ?_
      refine g_if_lt 71 dX8_countByRuns_43 (by decide) (fun h5 => ?_) (fun h5 => ?_)
      · have hQ := qp (P := gqIV Q) h5 hQ
        have hp := hp.1 h5
        refine g_lv (lv' := [(0, .ref (gX E + (b + 30))), (1, .int x1), (2, .int x2), (3, .int x3), (5, .int ((f_X8_endOfRun b x3 (f_X8_treatyOf b (b + 35) x3 v) x1 v)))]) [2, 3, 4, 5, 0] rfl ?_
        exact w_X8_countByRuns_71 b hb hd (fun x1 x2 x3 v => f_X8_countByRuns_15 b  n x1 x2 x3 v) (fun x1 x2 x3 v => p_X8_countByRuns_15 b   n x1 x2 x3 v) ih x1 x2 x3 (f_X8_endOfRun b x3 (f_X8_treatyOf b (b + 35) x3 v) x1 v) v hp hQ
      · have hQ := qn (P := gqIV Q) h5 hQ
        have hp := hp.2 h5
        refine g_aload_n 2 dX8_countByRuns_46 rfl ?_
        refine r_get (.ref (gX E + (b + 35))) f_X8_24_X8 rfl (kb_30 hb) (lt_b hb (by decide)) dX8_countByRuns_47 (fun _ => rfl) ?_
        refine g_iload 1 dX8_countByRuns_50 rfl ?_
        refine g_dup2 dX8_countByRuns_52 rfl rfl ?_
        obtain ⟨h6, hp⟩ := hp
        refine g_iald (kb_35 hb) (lt_b hb (by decide)) h6 dX8_countByRuns_53 ?_
        refine g_iload 0 dX8_countByRuns_54 rfl ?_
        refine g_iload_n 5 dX8_countByRuns_56 rfl ?_
        refine g_isub dX8_countByRuns_57 ?_
        refine g_iconst dX8_countByRuns_58 (1 : Int32) (by decide) ?_
        refine g_iadd dX8_countByRuns_59 ?_
        refine g_isub dX8_countByRuns_60 ?_
        obtain ⟨h7, hp⟩ := hp
        refine r_iast (kb_35 hb) (lt_b hb (by decide)) h7 dX8_countByRuns_61 ?_
        refine g_lv (lv' := [(0, .ref (gX E + (b + 30))), (1, .int x1), (2, .int x2), (3, .int x3), (5, .int ((f_X8_endOfRun b x3 (f_X8_treatyOf b (b + 35) x3 v) x1 v)))]) [2, 3, 4, 5, 0] rfl ?_
        exact w_X8_countByRuns_62 b hb hd (fun x1 x2 x3 v => f_X8_countByRuns_15 b  n x1 x2 x3 v) (fun x1 x2 x3 v => p_X8_countByRuns_15 b   n x1 x2 x3 v) ih x1 x2 x3 (f_X8_endOfRun b x3 (f_X8_treatyOf b (b + 35) x3 v) x1 v) (vM v (b + 35) (f_X8_treatyOf b (b + 35) x3 v).toNatClampNeg ((v.1 (b + 35) (f_X8_treatyOf b (b + 35) x3 v).toNatClampNeg) - (((f_X8_endOfRun b x3 (f_X8_treatyOf b (b + 35) x3 v) x1 v) - x3) + (1 : Int32)))) hp hQ
def f_X8_countByRuns_11 (b : Nat) (x1 : Int32) (v : gV) : Int32 × gV := f_X8_countByRuns_15 b  5000 x1 (0 : Int32) (1 : Int32) v
def p_X8_countByRuns_11 (b : Nat) (x1 : Int32) (v : gV) : Prop := p_X8_countByRuns_15 b   5000 x1 (0 : Int32) (1 : Int32) v
set_option maxHeartbeats 4000000 in
set_option maxRecDepth 100000 in
theorem w_X8_countByRuns_11 {E : gE} {d : Nat} {Q : gO → gS → Prop} (b : Nat) (hb : isBk b) (hd : 3 ≤ d) (x1 : Int32) (v : gV) (hp : p_X8_countByRuns_11 b   x1 v) (hQ : gqIV Q (f_X8_countByRuns_11 b  x1 v)) : gG E m_X8_countByRuns d Q 0 0 (rS v) 11 [(0, .ref (gX E + (b + 30))), (1, .int x1)] [] := by
  refine g_iconst dX8_countByRuns_11 (0 : Int32) (by decide) ?_
  refine g_istore_n [(2, .int ((0 : Int32))), (0, .ref (gX E + (b + 30))), (1, .int x1)] dX8_countByRuns_12 rfl (by decide) rfl ?_
  refine g_iconst dX8_countByRuns_13 (1 : Int32) (by decide) ?_
  refine g_istore_n [(3, .int ((1 : Int32))), (2, .int ((0 : Int32))), (0, .ref (gX E + (b + 30))), (1, .int x1)] dX8_countByRuns_14 rfl (by decide) rfl ?_
  refine g_lv (lv' := [(0, .ref (gX E + (b + 30))), (1, .int x1), (2, .int ((0 : Int32))), (3, .int ((1 : Int32)))]) [2, 3, 1, 0] rfl ?_
  exact w_X8_countByRuns_15 b hb hd    5000 x1 (0 : Int32) (1 : Int32) v hp hQ
def f_X8_countByRuns_0 (b : Nat) (x1 : Int32) (v : gV) : Int32 × gV := f_X8_countByRuns_11 b  x1 (f_X11_copyRow (b + 33) 4 (b + 35) 4 v)
def p_X8_countByRuns_0 (b : Nat) (x1 : Int32) (v : gV) : Prop := (p_X11_copyRow (b + 33) 4 (b + 35) 4 v) ∧ (p_X8_countByRuns_11 b   x1 (f_X11_copyRow (b + 33) 4 (b + 35) 4 v))
set_option maxHeartbeats 4000000 in
set_option maxRecDepth 100000 in
theorem w_X8_countByRuns_0 {E : gE} {d : Nat} {Q : gO → gS → Prop} (b : Nat) (hb : isBk b) (hd : 3 ≤ d) (x1 : Int32) (v : gV) (hp : p_X8_countByRuns_0 b   x1 v) (hQ : gqIV Q (f_X8_countByRuns_0 b  x1 v)) : gG E m_X8_countByRuns d Q 0 0 (rS v) 0 [(0, .ref (gX E + (b + 30))), (1, .int x1)] [] := by
  refine g_aload_n 0 dX8_countByRuns_0 rfl ?_
  refine r_get (.ref (gX E + (b + 33))) f_X8_18_X8 rfl (kb_30 hb) (lt_b hb (by decide)) dX8_countByRuns_1 (fun _ => rfl) ?_
  refine g_aload_n 0 dX8_countByRuns_4 rfl ?_
  refine r_get (.ref (gX E + (b + 35))) f_X8_24_X8 rfl (kb_30 hb) (lt_b hb (by decide)) dX8_countByRuns_5 (fun _ => rfl) ?_
  obtain ⟨h1, hp⟩ := hp
  refine g_callN (rest := []) s_X8_30 rfl (c_X11_copyRow (E := E) (d := d - 1) (b + 33) 4 (b + 35) 4 (by decide) (kb_33 hb) (lt_b hb (by decide)) (by decide) (kb_35 hb) (lt_b hb (by decide)) (by omega)  v h1) rfl rfl (Nat.le_of_ble_eq_true rfl) (by omega) (by decide) (by decide) dX8_countByRuns_8 (adN ?_) axN
  exact w_X8_countByRuns_11 b hb hd    x1 (f_X11_copyRow (b + 33) 4 (b + 35) 4 v) hp hQ
def f_X8_countByRuns (b : Nat) (x1 : Int32) (v : gV) : Int32 × gV := f_X8_countByRuns_0 b x1 v
def p_X8_countByRuns (b : Nat) (x1 : Int32) (v : gV) : Prop := p_X8_countByRuns_0 b x1 v
theorem c_X8_countByRuns {E : gE} {d : Nat} (b : Nat) (hb : isBk b) (hd : 3 ≤ d) (x1 : Int32) (v : gV) (hp : p_X8_countByRuns b x1 v) : CT E m_X8_countByRuns d 0 0 [.ref (gX E + (b + 30)), .int x1] (rS v) (Cq (.inl (some (.int ((f_X8_countByRuns b x1 v).1)))) (f_X8_countByRuns b x1 v).2) := CT.of ok_X8_countByRuns rfl (Nat.le_of_ble_eq_true rfl) (w_X8_countByRuns_0 b hb hd x1 v hp ⟨rfl, rfl⟩)
def f_X9_copyFrom_23 (b : Nat) (b2 : Nat) (K2 : Int32 → gV → gV)  (x2 : Int32) (v : gV) : gV := K2 (x2 + 1) v
def p_X9_copyFrom_23 (b : Nat) (b2 : Nat) (K2 : Int32 → gV → gV)  (PK2 : Int32 → gV → Prop)  (x2 : Int32) (v : gV) : Prop := PK2 (x2 + 1) v
set_option maxHeartbeats 4000000 in
set_option maxRecDepth 100000 in
theorem w_X9_copyFrom_23 {E : gE} {d : Nat} {Q : gO → gS → Prop} (b : Nat) (b2 : Nat) (hb : isBk b) (hb2 : isBk b2) (hd : 3 ≤ d) (K2 : Int32 → gV → gV)  (PK2 : Int32 → gV → Prop)  (hK2 : ∀ (x2 : Int32) (v : gV), PK2 x2 v → gqV Q (K2 x2 v) → gG E m_X9_copyFrom d Q 0 0 (rS v) 2 [(0, .ref (gX E + (b + 37))), (1, .ref (gX E + (b2 + 37))), (2, .int x2)] [])  (x2 : Int32) (v : gV) (hp : p_X9_copyFrom_23 b b2 K2 PK2 x2 v) (hQ : gqV Q (f_X9_copyFrom_23 b b2 K2 x2 v)) : gG E m_X9_copyFrom d Q 0 0 (rS v) 23 [(0, .ref (gX E + (b + 37))), (1, .ref (gX E + (b2 + 37))), (2, .int x2)] [] := by
  refine g_iinc 2 (x2 + 1) [(2, .int (x2 + 1)), (0, .ref (gX E + (b + 37))), (1, .ref (gX E + (b2 + 37)))] dX9_copyFrom_23 rfl rfl (by decide) rfl ?_
  refine g_goto 2 dX9_copyFrom_26 (by decide) ?_
  refine g_lv (lv' := [(0, .ref (gX E + (b + 37))), (1, .ref (gX E + (b2 + 37))), (2, .int (x2 + 1))]) [1, 2, 0] rfl ?_
  exact hK2 (x2 + 1) v hp hQ
def f_X9_copyFrom_2 (b : Nat) (b2 : Nat) : Nat → Int32 → gV → gV
  | 0, _, v => v
  | n + 1, x2, v => if (6 : Int32) ≤ x2 then v else (f_X9_copyFrom_23 b b2 (fun x2 v => f_X9_copyFrom_2 b b2  n x2 v) x2 (f_X11_copyRow (b2 + 38 + 1 + (x2).toNatClampNeg) 6 (b + 38 + 1 + (x2).toNatClampNeg) 6 v))
def p_X9_copyFrom_2 (b : Nat) (b2 : Nat) : Nat → Int32 → gV → Prop
  | 0, _, _ => False
  | n + 1, x2, v => (((6 : Int32) ≤ x2) → (True)) ∧ (¬ ((6 : Int32) ≤ x2) → ((vp_in x2 6) ∧ ((vp_in x2 6) ∧ ((p_X11_copyRow (b2 + 38 + 1 + (x2).toNatClampNeg) 6 (b + 38 + 1 + (x2).toNatClampNeg) 6 v) ∧ (p_X9_copyFrom_23 b b2 (fun x2 v => f_X9_copyFrom_2 b b2  n x2 v) (fun x2 v => p_X9_copyFrom_2 b b2   n x2 v) x2 (f_X11_copyRow (b2 + 38 + 1 + (x2).toNatClampNeg) 6 (b + 38 + 1 + (x2).toNatClampNeg) 6 v))))))
set_option maxHeartbeats 4000000 in
set_option maxRecDepth 100000 in
theorem w_X9_copyFrom_2 {E : gE} {d : Nat} {Q : gO → gS → Prop} (b : Nat) (b2 : Nat) (hb : isBk b) (hb2 : isBk b2) (hd : 3 ≤ d) : ∀ (n : Nat) (x2 : Int32) (v : gV), p_X9_copyFrom_2 b b2   n x2 v → gqV Q (f_X9_copyFrom_2 b b2  n x2 v) → gG E m_X9_copyFrom d Q 0 0 (rS v) 2 [(0, .ref (gX E + (b + 37))), (1, .ref (gX E + (b2 + 37))), (2, .int x2)] [] := by
  intro n
  induction n with
  | zero => intro x2 v hp; exact hp.elim
  | succ n ih =>
    intro x2 v hp hQ
    refine g_iload_n 2 dX9_copyFrom_2 rfl ?_
    refine g_bipush dX9_copyFrom_3 (6 : Int32) (by decide) ?_
    refine g_icmp_ge 29 dX9_copyFrom_5 (by decide) (fun h1 => ?_) (fun h1 => ?_)
    · have hQ := qp (P := gqV Q) h1 hQ
      have hp := hp.1 h1
      exact g_vret rfl dX9_copyFrom_29 hQ
    · have hQ := qn (P := gqV Q) h1 hQ
      have hp := hp.2 h1
      refine g_aload_n 1 dX9_copyFrom_8 rfl ?_
      refine r_get (.ref (gX E + (b2 + 38))) f_X9_11_X9 rfl (kb_37 hb2) (lt_b hb2 (by decide)) dX9_copyFrom_9 (fun _ => rfl) ?_
      refine g_iload_n 2 dX9_copyFrom_12 rfl ?_
      obtain ⟨h2, hp⟩ := hp
      refine r_aald (kb_38 hb2) (lt_b hb2 (by decide)) h2 (by decide) dX9_copyFrom_13 ?_
      refine g_aload_n 0 dX9_copyFrom_14 rfl ?_
      refine r_get (.ref (gX E + (b + 38))) f_X9_11_X9 rfl (kb_37 hb) (lt_b hb (by decide)) dX9_copyFrom_15 (fun _ => rfl) ?_
      refine g_iload_n 2 dX9_copyFrom_18 rfl ?_
      obtain ⟨h3, hp⟩ := hp
      refine r_aald (kb_38 hb) (lt_b hb (by decide)) h3 (by decide) dX9_copyFrom_19 ?_
      obtain ⟨h4, hp⟩ := hp
      refine g_callN (rest := []) s_X9_16 rfl (c_X11_copyRow (E := E) (d := d - 1) (b2 + 38 + 1 + (x2).toNatClampNeg) 6 (b + 38 + 1 + (x2).toNatClampNeg) 6 (by decide) (kg_38 hb2 h2) (lg_38 hb2 h2) (by decide) (kg_38 hb h3) (lg_38 hb h3) (by omega)  v h4) rfl rfl (Nat.le_of_ble_eq_true rfl) (by omega) (by decide) (by decide) dX9_copyFrom_20 (adN ?_) axN
      exact w_X9_copyFrom_23 b b2 hb hb2 hd (fun x2 v => f_X9_copyFrom_2 b b2  n x2 v) (fun x2 v => p_X9_copyFrom_2 b b2   n x2 v) ih x2 (f_X11_copyRow (b2 + 38 + 1 + (x2).toNatClampNeg) 6 (b + 38 + 1 + (x2).toNatClampNeg) 6 v) hp hQ
def f_X9_copyFrom_0 (b : Nat) (b2 : Nat)  (v : gV) : gV := f_X9_copyFrom_2 b b2  5000 (0 : Int32) v
def p_X9_copyFrom_0 (b : Nat) (b2 : Nat)  (v : gV) : Prop := p_X9_copyFrom_2 b b2   5000 (0 : Int32) v
set_option maxHeartbeats 4000000 in
set_option maxRecDepth 100000 in
theorem w_X9_copyFrom_0 {E : gE} {d : Nat} {Q : gO → gS → Prop} (b : Nat) (b2 : Nat) (hb : isBk b) (hb2 : isBk b2) (hd : 3 ≤ d)  (v : gV) (hp : p_X9_copyFrom_0 b b2    v) (hQ : gqV Q (f_X9_copyFrom_0 b b2   v)) : gG E m_X9_copyFrom d Q 0 0 (rS v) 0 [(0, .ref (gX E + (b + 37))), (1, .ref (gX E + (b2 + 37)))] [] := by
  refine g_iconst dX9_copyFrom_0 (0 : Int32) (by decide) ?_
  refine g_istore_n [(2, .int ((0 : Int32))), (0, .ref (gX E + (b + 37))), (1, .ref (gX E + (b2 + 37)))] dX9_copyFrom_1 rfl (by decide) rfl ?_
  refine g_lv (lv' := [(0, .ref (gX E + (b + 37))), (1, .ref (gX E + (b2 + 37))), (2, .int ((0 : Int32)))]) [1, 2, 0] rfl ?_
  exact w_X9_copyFrom_2 b b2 hb hb2 hd    5000 (0 : Int32) v hp hQ
def f_X9_copyFrom (b : Nat) (b2 : Nat)  (v : gV) : gV := f_X9_copyFrom_0 b b2  v
def p_X9_copyFrom (b : Nat) (b2 : Nat)  (v : gV) : Prop := p_X9_copyFrom_0 b b2  v
theorem c_X9_copyFrom {E : gE} {d : Nat} (b : Nat) (b2 : Nat) (hb : isBk b) (hb2 : isBk b2) (hd : 3 ≤ d)  (v : gV) (hp : p_X9_copyFrom b b2  v) : CT E m_X9_copyFrom d 0 0 [.ref (gX E + (b + 37)), .ref (gX E + (b2 + 37))] (rS v) (Cq (.inl none) (f_X9_copyFrom b b2  v)) := CT.of ok_X9_copyFrom rfl (Nat.le_of_ble_eq_true rfl) (w_X9_copyFrom_0 b b2 hb hb2 hd  v hp ⟨rfl, rfl⟩)
def f_X9_totalOfPeriods_5 (b : Nat) : Nat → Int32 → Int32 → Int64 → Int32 → gV → Int64
  | 0, _, _, _, _, v => 0
  | n + 1, x1, x2, x3, x5, v => if (if (6 : Int32) < x1 then (6 : Int32) else x1) ≤ x5 then x3 else (f_X9_totalOfPeriods_5 b  n x1 x2 (x3 + ((f_X9_totalOf b x5 x2 v).toInt64)) (x5 + 1) v)
def p_X9_totalOfPeriods_5 (b : Nat) : Nat → Int32 → Int32 → Int64 → Int32 → gV → Prop
  | 0, _, _, _, _, _ => False
  | n + 1, x1, x2, x3, x5, v => (((if (6 : Int32) < x1 then (6 : Int32) else x1) ≤ x5) → (True)) ∧ (¬ ((if (6 : Int32) < x1 then (6 : Int32) else x1) ≤ x5) → ((p_X9_totalOf b x5 x2 v) ∧ (p_X9_totalOfPeriods_5 b   n x1 x2 (x3 + ((f_X9_totalOf b x5 x2 v).toInt64)) (x5 + 1) v)))
set_option maxHeartbeats 4000000 in
set_option maxRecDepth 100000 in
theorem w_X9_totalOfPeriods_5 {E : gE} {d : Nat} {Q : gO → gS → Prop} (b : Nat) (hb : isBk b) (hd : 1 ≤ d) : ∀ (n : Nat) (x1 : Int32) (x2 : Int32) (x3 : Int64) (x5 : Int32) (v : gV), p_X9_totalOfPeriods_5 b   n x1 x2 x3 x5 v → gqJ Q v (f_X9_totalOfPeriods_5 b  n x1 x2 x3 x5 v) → gG E m_X9_totalOfPeriods d Q 0 0 (rS v) 5 [(0, .ref (gX E + (b + 37))), (1, .int x1), (2, .int x2), (3, .long x3), (5, .int x5)] [] := by
  intro n
  induction n with
  | zero => intro x1 x2 x3 x5 v hp; exact hp.elim
  | succ n ih =>
    intro x1 x2 x3 x5 v hp hQ
    refine g_iload 4 dX9_totalOfPeriods_5 rfl ?_
    refine g_iload_n 1 dX9_totalOfPeriods_7 rfl ?_
    refine g_bipush dX9_totalOfPeriods_8 (6 : Int32) (by decide) ?_
    refine r_mmin mw_X9_36 rfl (Nat.le_of_ble_eq_true rfl) (by omega) dX9_totalOfPeriods_10 ?_
    refine g_icmp_ge 33 dX9_totalOfPeriods_13 (by decide) (fun h1 => ?_) (fun h1 => ?_)
    · have hQ := qp (P := gqJ Q v) h1 hQ
      have hp := hp.1 h1
      refine g_lload_n 3 dX9_totalOfPeriods_33 rfl ?_
      exact g_lret rfl dX9_totalOfPeriods_34 hQ
    · have hQ := qn (P := gqJ Q v) h1 hQ
      have hp := hp.2 h1
      refine g_lload_n 3 dX9_totalOfPeriods_16 rfl ?_
      refine g_aload_n 0 dX9_totalOfPeriods_17 rfl ?_
      refine g_iload 4 dX9_totalOfPeriods_18 rfl ?_
      refine g_iload_n 2 dX9_totalOfPeriods_20 rfl ?_
      obtain ⟨h2, hp⟩ := hp
      refine g_callV (rest := [.long x3]) s_X9_20_X9 rfl (c_X9_totalOf (E := E) (d := d - 1) b hb (by omega) x5 x2 v h2) (kb_37 hb) (lt_b hb (by decide)) rfl rfl (Nat.le_of_ble_eq_true rfl) (by omega) (by decide) (by decide) dX9_totalOfPeriods_21 (adV ?_) axN
      refine g_i2l dX9_totalOfPeriods_24 ?_
      refine g_ladd dX9_totalOfPeriods_25 ?_
      refine g_lstore_n [(3, .long (x3 + ((f_X9_totalOf b x5 x2 v).toInt64))), (0, .ref (gX E + (b + 37))), (1, .int x1), (2, .int x2), (5, .int x5)] dX9_totalOfPeriods_26 rfl (by decide) rfl ?_
      refine g_iinc 4 (x5 + 1) [(5, .int (x5 + 1)), (3, .long (x3 + ((f_X9_totalOf b x5 x2 v).toInt64))), (0, .ref (gX E + (b + 37))), (1, .int x1), (2, .int x2)] dX9_totalOfPeriods_27 rfl rfl (by decide) rfl ?_
      refine g_goto 5 dX9_totalOfPeriods_30 (by decide) ?_
      refine g_lv (lv' := [(0, .ref (gX E + (b + 37))), (1, .int x1), (2, .int x2), (3, .long (x3 + ((f_X9_totalOf b x5 x2 v).toInt64))), (5, .int (x5 + 1))]) [2, 3, 4, 1, 0] rfl ?_
      exact ih x1 x2 (x3 + ((f_X9_totalOf b x5 x2 v).toInt64)) (x5 + 1) v hp hQ
def f_X9_totalOfPeriods_0 (b : Nat) (x1 : Int32) (x2 : Int32) (v : gV) : Int64 := f_X9_totalOfPeriods_5 b  5000 x1 x2 (0 : Int64) (0 : Int32) v
def p_X9_totalOfPeriods_0 (b : Nat) (x1 : Int32) (x2 : Int32) (v : gV) : Prop := p_X9_totalOfPeriods_5 b   5000 x1 x2 (0 : Int64) (0 : Int32) v
set_option maxHeartbeats 4000000 in
set_option maxRecDepth 100000 in
theorem w_X9_totalOfPeriods_0 {E : gE} {d : Nat} {Q : gO → gS → Prop} (b : Nat) (hb : isBk b) (hd : 1 ≤ d) (x1 : Int32) (x2 : Int32) (v : gV) (hp : p_X9_totalOfPeriods_0 b   x1 x2 v) (hQ : gqJ Q v (f_X9_totalOfPeriods_0 b  x1 x2 v)) : gG E m_X9_totalOfPeriods d Q 0 0 (rS v) 0 [(0, .ref (gX E + (b + 37))), (1, .int x1), (2, .int x2)] [] := by
  refine g_lconst dX9_totalOfPeriods_0 (0 : Int64) (by decide) ?_
  refine g_lstore_n [(3, .long ((0 : Int64))), (0, .ref (gX E + (b + 37))), (1, .int x1), (2, .int x2)] dX9_totalOfPeriods_1 rfl (by decide) rfl ?_
  refine g_iconst dX9_totalOfPeriods_2 (0 : Int32) (by decide) ?_
  refine g_istore [(5, .int ((0 : Int32))), (3, .long ((0 : Int64))), (0, .ref (gX E + (b + 37))), (1, .int x1), (2, .int x2)] dX9_totalOfPeriods_3 (by decide) rfl ?_
  refine g_lv (lv' := [(0, .ref (gX E + (b + 37))), (1, .int x1), (2, .int x2), (3, .long ((0 : Int64))), (5, .int ((0 : Int32)))]) [2, 3, 4, 1, 0] rfl ?_
  exact w_X9_totalOfPeriods_5 b hb hd    5000 x1 x2 (0 : Int64) (0 : Int32) v hp hQ
def f_X9_totalOfPeriods (b : Nat) (x1 : Int32) (x2 : Int32) (v : gV) : Int64 := f_X9_totalOfPeriods_0 b x1 x2 v
def p_X9_totalOfPeriods (b : Nat) (x1 : Int32) (x2 : Int32) (v : gV) : Prop := p_X9_totalOfPeriods_0 b x1 x2 v
theorem c_X9_totalOfPeriods {E : gE} {d : Nat} (b : Nat) (hb : isBk b) (hd : 1 ≤ d) (x1 : Int32) (x2 : Int32) (v : gV) (hp : p_X9_totalOfPeriods b x1 x2 v) : CT E m_X9_totalOfPeriods d 0 0 [.ref (gX E + (b + 37)), .int x1, .int x2] (rS v) (Cq (.inl (some (.long (f_X9_totalOfPeriods b x1 x2 v)))) v) := CT.of ok_X9_totalOfPeriods rfl (Nat.le_of_ble_eq_true rfl) (w_X9_totalOfPeriods_0 b hb hd x1 x2 v hp ⟨rfl, rfl⟩)
def f_X11_policyAt_24  (s0 : Int32) (v : gV) : Int32 ⊕ String := Sum.inl (v.1 (1 + 2) s0.toNatClampNeg)
def p_X11_policyAt_24  (s0 : Int32) (v : gV) : Prop := (vp_in s0 8) ∧ (True)
set_option maxHeartbeats 4000000 in
set_option maxRecDepth 100000 in
theorem w_X11_policyAt_24 {E : gE} {d : Nat} {Q : gO → gS → Prop}   (hd : 8 ≤ d) (s0 : Int32) (v : gV) (hp : p_X11_policyAt_24   s0 v) (hQ : gqTI Q v (f_X11_policyAt_24  s0 v)) : gG E m_X11_policyAt d Q 0 0 (rS v) 24 [] [.int s0, .ref (gX E + (1 + 2))] := by
  obtain ⟨h4, hp⟩ := hp
  refine g_iald (kb_2 isBk_1) (lt_b isBk_1 (by decide)) h4 dX11_policyAt_24 ?_
  exact g_iret rfl dX11_policyAt_25 hQ
def f_X11_policyAt_0  (x1 : Int32) (v : gV) : Int32 ⊕ String := Sum.elim (fun (sr2 : Int32) => f_X11_policyAt_24  sr2 v) (fun (e : String) => Sum.inr e) (f_X11_checkedIndex x1 (v.1 (1 + 1) 1) v)
def p_X11_policyAt_0  (x1 : Int32) (v : gV) : Prop := (p_X11_checkedIndex x1 (v.1 (1 + 1) 1) v) ∧ (∀ (sr2 : Int32), (f_X11_checkedIndex x1 (v.1 (1 + 1) 1) v) = Sum.inl sr2 → (p_X11_policyAt_24   sr2 v))
set_option maxHeartbeats 4000000 in
set_option maxRecDepth 100000 in
theorem w_X11_policyAt_0 {E : gE} {d : Nat} {Q : gO → gS → Prop}   (hd : 8 ≤ d) (x1 : Int32) (v : gV) (hp : p_X11_policyAt_0   x1 v) (hQ : gqTI Q v (f_X11_policyAt_0  x1 v)) : gG E m_X11_policyAt d Q 1 6 (rS v) 0 [(0, .ref (gX E + 0)), (1, .int x1)] [] := by
  refine g_aload_n 0 dX11_policyAt_0 rfl ?_
  refine r_get (.ref (gX E + 1)) f_X11_10_X11 rfl (by decide : kd 0 = (0, 8)) (show 0 < 572 by decide) dX11_policyAt_1 (fun _ => rfl) ?_
  refine r_get (.ref (gX E + (1 + 1))) f_X11_108_X1 rfl (kbz isBk_1) (lt_b0 isBk_1) dX11_policyAt_4 (fun _ => rfl) ?_
  refine r_get (.ref (gX E + (1 + 2))) f_X11_117_X5 rfl (kb_1 isBk_1) (lt_b isBk_1 (by decide)) dX11_policyAt_7 (fun _ => rfl) ?_
  refine g_iload_n 1 dX11_policyAt_10 rfl ?_
  refine g_aload_n 0 dX11_policyAt_11 rfl ?_
  refine r_get (.ref (gX E + 1)) f_X11_10_X11 rfl (by decide : kd 0 = (0, 8)) (show 0 < 572 by decide) dX11_policyAt_12 (fun _ => rfl) ?_
  refine r_get (.ref (gX E + (1 + 1))) f_X11_108_X1 rfl (kbz isBk_1) (lt_b0 isBk_1) dX11_policyAt_15 (fun _ => rfl) ?_
  refine r_get (.int (v.1 (1 + 1) 1)) f_X11_112_X5 rfl (kb_1 isBk_1) (lt_b isBk_1 (by decide)) dX11_policyAt_18 (fun _ => rfl) ?_
  obtain ⟨h1, hp⟩ := hp
  refine g_callS (rest := [.ref (gX E + (1 + 2))]) s_X11_121 rfl (c_X11_checkedIndex (E := E) (d := d - 1)   (by omega) x1 (v.1 (1 + 1) 1) v h1) rfl rfl (Nat.le_of_ble_eq_true rfl) (by omega) (by decide) (by decide) dX11_policyAt_21 (adTI (fun sr2 h3 => ?_)) (axTI (fun e h3 => g_outs rfl rfl (qe (P := gqTI Q v) h3 hQ)))
  have hQ := ql (P := gqTI Q v) h3 hQ
  have hp := hp sr2 h3
  refine g_lv (lv' := []) [] rfl ?_
  exact w_X11_policyAt_24  hd    sr2 v hp hQ
def f_X11_policyAt  (x1 : Int32) (v : gV) : Int32 ⊕ String := f_X11_policyAt_0 x1 v
def p_X11_policyAt  (x1 : Int32) (v : gV) : Prop := p_X11_policyAt_0 x1 v
theorem c_X11_policyAt {E : gE} {d : Nat}   (hd : 8 ≤ d) (x1 : Int32) (v : gV) (hp : p_X11_policyAt x1 v) : CT E m_X11_policyAt d 1 6 [.ref (gX E + 0), .int x1] (rS v) (Cq (gOi (f_X11_policyAt x1 v)) v) := CT.of ok_X11_policyAt rfl (Nat.le_of_ble_eq_true rfl) (w_X11_policyAt_0  hd x1 v hp ⟨rfl, rfl⟩)
def f_X11_sumOf_21  (s0 : Int32) (v : gV) : Int32 ⊕ String := Sum.inl (v.1 (1 + 3) s0.toNatClampNeg)
def p_X11_sumOf_21  (s0 : Int32) (v : gV) : Prop := (vp_in s0 8) ∧ (True)
set_option maxHeartbeats 4000000 in
set_option maxRecDepth 100000 in
theorem w_X11_sumOf_21 {E : gE} {d : Nat} {Q : gO → gS → Prop}   (hd : 8 ≤ d) (s0 : Int32) (v : gV) (hp : p_X11_sumOf_21   s0 v) (hQ : gqTI Q v (f_X11_sumOf_21  s0 v)) : gG E m_X11_sumOf d Q 0 0 (rS v) 21 [] [.int s0, .ref (gX E + (1 + 3))] := by
  obtain ⟨h4, hp⟩ := hp
  refine g_iald (kb_3 isBk_1) (lt_b isBk_1 (by decide)) h4 dX11_sumOf_21 ?_
  exact g_iret rfl dX11_sumOf_22 hQ
def f_X11_sumOf_0  (x1 : Int32) (v : gV) : Int32 ⊕ String := Sum.elim (fun (sr2 : Int32) => f_X11_sumOf_21  sr2 v) (fun (e : String) => Sum.inr e) (f_X6_placeOf_P 1 x1 v)
def p_X11_sumOf_0  (x1 : Int32) (v : gV) : Prop := (p_X6_placeOf_P 1 x1 v) ∧ (∀ (sr2 : Int32), (f_X6_placeOf_P 1 x1 v) = Sum.inl sr2 → (p_X11_sumOf_21   sr2 v))
set_option maxHeartbeats 4000000 in
set_option maxRecDepth 100000 in
theorem w_X11_sumOf_0 {E : gE} {d : Nat} {Q : gO → gS → Prop}   (hd : 8 ≤ d) (x1 : Int32) (v : gV) (hp : p_X11_sumOf_0   x1 v) (hQ : gqTI Q v (f_X11_sumOf_0  x1 v)) : gG E m_X11_sumOf d Q 1 6 (rS v) 0 [(0, .ref (gX E + 0)), (1, .int x1)] [] := by
  refine g_aload_n 0 dX11_sumOf_0 rfl ?_
  refine r_get (.ref (gX E + 1)) f_X11_10_X11 rfl (by decide : kd 0 = (0, 8)) (show 0 < 572 by decide) dX11_sumOf_1 (fun _ => rfl) ?_
  refine r_get (.ref (gX E + (1 + 1))) f_X11_108_X1 rfl (kbz isBk_1) (lt_b0 isBk_1) dX11_sumOf_4 (fun _ => rfl) ?_
  refine r_get (.ref (gX E + (1 + 3))) f_X11_124_X5 rfl (kb_1 isBk_1) (lt_b isBk_1 (by decide)) dX11_sumOf_7 (fun _ => rfl) ?_
  refine g_aload_n 0 dX11_sumOf_10 rfl ?_
  refine r_get (.ref (gX E + 1)) f_X11_10_X11 rfl (by decide : kd 0 = (0, 8)) (show 0 < 572 by decide) dX11_sumOf_11 (fun _ => rfl) ?_
  refine r_get (.ref (gX E + (1 + 1))) f_X11_108_X1 rfl (kbz isBk_1) (lt_b0 isBk_1) dX11_sumOf_14 (fun _ => rfl) ?_
  refine g_iload_n 1 dX11_sumOf_17 rfl ?_
  obtain ⟨h1, hp⟩ := hp
  refine g_callU (rest := [.ref (gX E + (1 + 3))]) s_X11_127_X5 rfl (c_X6_placeOf_P (E := E) (d := d - 1) 1 isBk_1 (by omega) x1 v h1) (kb_1 isBk_1) (lt_b isBk_1 (by decide)) rfl rfl (Nat.le_of_ble_eq_true rfl) (by omega) (by decide) (by decide) dX11_sumOf_18 (adTI (fun sr2 h3 => ?_)) (axTI (fun e h3 => g_outs rfl rfl (qe (P := gqTI Q v) h3 hQ)))
  have hQ := ql (P := gqTI Q v) h3 hQ
  have hp := hp sr2 h3
  refine g_lv (lv' := []) [] rfl ?_
  exact w_X11_sumOf_21  hd    sr2 v hp hQ
def f_X11_sumOf  (x1 : Int32) (v : gV) : Int32 ⊕ String := f_X11_sumOf_0 x1 v
def p_X11_sumOf  (x1 : Int32) (v : gV) : Prop := p_X11_sumOf_0 x1 v
theorem c_X11_sumOf {E : gE} {d : Nat}   (hd : 8 ≤ d) (x1 : Int32) (v : gV) (hp : p_X11_sumOf x1 v) : CT E m_X11_sumOf d 1 6 [.ref (gX E + 0), .int x1] (rS v) (Cq (gOi (f_X11_sumOf x1 v)) v) := CT.of ok_X11_sumOf rfl (Nat.le_of_ble_eq_true rfl) (w_X11_sumOf_0  hd x1 v hp ⟨rfl, rfl⟩)
def f_X11_sumLeft_18  (s0 : Int32) (v : gV) : Int32 ⊕ String := Sum.inl (f_X5_leftAt 1 s0 v)
def p_X11_sumLeft_18  (s0 : Int32) (v : gV) : Prop := (p_X5_leftAt 1 s0 v) ∧ (True)
set_option maxHeartbeats 4000000 in
set_option maxRecDepth 100000 in
theorem w_X11_sumLeft_18 {E : gE} {d : Nat} {Q : gO → gS → Prop}   (hd : 8 ≤ d) (s0 : Int32) (v : gV) (hp : p_X11_sumLeft_18   s0 v) (hQ : gqTI Q v (f_X11_sumLeft_18  s0 v)) : gG E m_X11_sumLeft d Q 0 0 (rS v) 18 [] [.int s0, .ref (gX E + (1 + 1))] := by
  obtain ⟨h4, hp⟩ := hp
  refine g_callV (rest := []) s_X11_130_X5 rfl (c_X5_leftAt (E := E) (d := d - 1) 1 isBk_1 (by omega) s0 v h4) (kb_1 isBk_1) (lt_b isBk_1 (by decide)) rfl rfl (Nat.le_of_ble_eq_true rfl) (by omega) (by decide) (by decide) dX11_sumLeft_18 (adV ?_) axN
  exact g_iret rfl dX11_sumLeft_21 hQ
def f_X11_sumLeft_0  (x1 : Int32) (v : gV) : Int32 ⊕ String := Sum.elim (fun (sr2 : Int32) => f_X11_sumLeft_18  sr2 v) (fun (e : String) => Sum.inr e) (f_X6_placeOf_P 1 x1 v)
def p_X11_sumLeft_0  (x1 : Int32) (v : gV) : Prop := (p_X6_placeOf_P 1 x1 v) ∧ (∀ (sr2 : Int32), (f_X6_placeOf_P 1 x1 v) = Sum.inl sr2 → (p_X11_sumLeft_18   sr2 v))
set_option maxHeartbeats 4000000 in
set_option maxRecDepth 100000 in
theorem w_X11_sumLeft_0 {E : gE} {d : Nat} {Q : gO → gS → Prop}   (hd : 8 ≤ d) (x1 : Int32) (v : gV) (hp : p_X11_sumLeft_0   x1 v) (hQ : gqTI Q v (f_X11_sumLeft_0  x1 v)) : gG E m_X11_sumLeft d Q 1 6 (rS v) 0 [(0, .ref (gX E + 0)), (1, .int x1)] [] := by
  refine g_aload_n 0 dX11_sumLeft_0 rfl ?_
  refine r_get (.ref (gX E + 1)) f_X11_10_X11 rfl (by decide : kd 0 = (0, 8)) (show 0 < 572 by decide) dX11_sumLeft_1 (fun _ => rfl) ?_
  refine r_get (.ref (gX E + (1 + 1))) f_X11_108_X1 rfl (kbz isBk_1) (lt_b0 isBk_1) dX11_sumLeft_4 (fun _ => rfl) ?_
  refine g_aload_n 0 dX11_sumLeft_7 rfl ?_
  refine r_get (.ref (gX E + 1)) f_X11_10_X11 rfl (by decide : kd 0 = (0, 8)) (show 0 < 572 by decide) dX11_sumLeft_8 (fun _ => rfl) ?_
  refine r_get (.ref (gX E + (1 + 1))) f_X11_108_X1 rfl (kbz isBk_1) (lt_b0 isBk_1) dX11_sumLeft_11 (fun _ => rfl) ?_
  refine g_iload_n 1 dX11_sumLeft_14 rfl ?_
  obtain ⟨h1, hp⟩ := hp
  refine g_callU (rest := [.ref (gX E + (1 + 1))]) s_X11_127_X5 rfl (c_X6_placeOf_P (E := E) (d := d - 1) 1 isBk_1 (by omega) x1 v h1) (kb_1 isBk_1) (lt_b isBk_1 (by decide)) rfl rfl (Nat.le_of_ble_eq_true rfl) (by omega) (by decide) (by decide) dX11_sumLeft_15 (adTI (fun sr2 h3 => ?_)) (axTI (fun e h3 => g_outs rfl rfl (qe (P := gqTI Q v) h3 hQ)))
  have hQ := ql (P := gqTI Q v) h3 hQ
  have hp := hp sr2 h3
  refine g_lv (lv' := []) [] rfl ?_
  exact w_X11_sumLeft_18  hd    sr2 v hp hQ
def f_X11_sumLeft  (x1 : Int32) (v : gV) : Int32 ⊕ String := f_X11_sumLeft_0 x1 v
def p_X11_sumLeft  (x1 : Int32) (v : gV) : Prop := p_X11_sumLeft_0 x1 v
theorem c_X11_sumLeft {E : gE} {d : Nat}   (hd : 8 ≤ d) (x1 : Int32) (v : gV) (hp : p_X11_sumLeft x1 v) : CT E m_X11_sumLeft d 1 6 [.ref (gX E + 0), .int x1] (rS v) (Cq (gOi (f_X11_sumLeft x1 v)) v) := CT.of ok_X11_sumLeft rfl (Nat.le_of_ble_eq_true rfl) (w_X11_sumLeft_0  hd x1 v hp ⟨rfl, rfl⟩)
def f_X11_riskOf_21  (s0 : Int32) (v : gV) : Int32 ⊕ String := Sum.inl (v.1 (1 + 4) s0.toNatClampNeg)
def p_X11_riskOf_21  (s0 : Int32) (v : gV) : Prop := (vp_in s0 8) ∧ (True)
set_option maxHeartbeats 4000000 in
set_option maxRecDepth 100000 in
theorem w_X11_riskOf_21 {E : gE} {d : Nat} {Q : gO → gS → Prop}   (hd : 8 ≤ d) (s0 : Int32) (v : gV) (hp : p_X11_riskOf_21   s0 v) (hQ : gqTI Q v (f_X11_riskOf_21  s0 v)) : gG E m_X11_riskOf d Q 0 0 (rS v) 21 [] [.int s0, .ref (gX E + (1 + 4))] := by
  obtain ⟨h4, hp⟩ := hp
  refine g_iald (kb_4 isBk_1) (lt_b isBk_1 (by decide)) h4 dX11_riskOf_21 ?_
  exact g_iret rfl dX11_riskOf_22 hQ
def f_X11_riskOf_0  (x1 : Int32) (v : gV) : Int32 ⊕ String := Sum.elim (fun (sr2 : Int32) => f_X11_riskOf_21  sr2 v) (fun (e : String) => Sum.inr e) (f_X6_placeOf_P 1 x1 v)
def p_X11_riskOf_0  (x1 : Int32) (v : gV) : Prop := (p_X6_placeOf_P 1 x1 v) ∧ (∀ (sr2 : Int32), (f_X6_placeOf_P 1 x1 v) = Sum.inl sr2 → (p_X11_riskOf_21   sr2 v))
set_option maxHeartbeats 4000000 in
set_option maxRecDepth 100000 in
theorem w_X11_riskOf_0 {E : gE} {d : Nat} {Q : gO → gS → Prop}   (hd : 8 ≤ d) (x1 : Int32) (v : gV) (hp : p_X11_riskOf_0   x1 v) (hQ : gqTI Q v (f_X11_riskOf_0  x1 v)) : gG E m_X11_riskOf d Q 1 6 (rS v) 0 [(0, .ref (gX E + 0)), (1, .int x1)] [] := by
  refine g_aload_n 0 dX11_riskOf_0 rfl ?_
  refine r_get (.ref (gX E + 1)) f_X11_10_X11 rfl (by decide : kd 0 = (0, 8)) (show 0 < 572 by decide) dX11_riskOf_1 (fun _ => rfl) ?_
  refine r_get (.ref (gX E + (1 + 1))) f_X11_108_X1 rfl (kbz isBk_1) (lt_b0 isBk_1) dX11_riskOf_4 (fun _ => rfl) ?_
  refine r_get (.ref (gX E + (1 + 4))) f_X11_133_X5 rfl (kb_1 isBk_1) (lt_b isBk_1 (by decide)) dX11_riskOf_7 (fun _ => rfl) ?_
  refine g_aload_n 0 dX11_riskOf_10 rfl ?_
  refine r_get (.ref (gX E + 1)) f_X11_10_X11 rfl (by decide : kd 0 = (0, 8)) (show 0 < 572 by decide) dX11_riskOf_11 (fun _ => rfl) ?_
  refine r_get (.ref (gX E + (1 + 1))) f_X11_108_X1 rfl (kbz isBk_1) (lt_b0 isBk_1) dX11_riskOf_14 (fun _ => rfl) ?_
  refine g_iload_n 1 dX11_riskOf_17 rfl ?_
  obtain ⟨h1, hp⟩ := hp
  refine g_callU (rest := [.ref (gX E + (1 + 4))]) s_X11_127_X5 rfl (c_X6_placeOf_P (E := E) (d := d - 1) 1 isBk_1 (by omega) x1 v h1) (kb_1 isBk_1) (lt_b isBk_1 (by decide)) rfl rfl (Nat.le_of_ble_eq_true rfl) (by omega) (by decide) (by decide) dX11_riskOf_18 (adTI (fun sr2 h3 => ?_)) (axTI (fun e h3 => g_outs rfl rfl (qe (P := gqTI Q v) h3 hQ)))
  have hQ := ql (P := gqTI Q v) h3 hQ
  have hp := hp sr2 h3
  refine g_lv (lv' := []) [] rfl ?_
  exact w_X11_riskOf_21  hd    sr2 v hp hQ
def f_X11_riskOf  (x1 : Int32) (v : gV) : Int32 ⊕ String := f_X11_riskOf_0 x1 v
def p_X11_riskOf  (x1 : Int32) (v : gV) : Prop := p_X11_riskOf_0 x1 v
theorem c_X11_riskOf {E : gE} {d : Nat}   (hd : 8 ≤ d) (x1 : Int32) (v : gV) (hp : p_X11_riskOf x1 v) : CT E m_X11_riskOf d 1 6 [.ref (gX E + 0), .int x1] (rS v) (Cq (gOi (f_X11_riskOf x1 v)) v) := CT.of ok_X11_riskOf rfl (Nat.le_of_ble_eq_true rfl) (w_X11_riskOf_0  hd x1 v hp ⟨rfl, rfl⟩)
def f_X11_premiumOf_21  (s0 : Int32) (v : gV) : Int32 ⊕ String := Sum.inl (v.1 (1 + 7) s0.toNatClampNeg)
def p_X11_premiumOf_21  (s0 : Int32) (v : gV) : Prop := (vp_in s0 8) ∧ (True)
set_option maxHeartbeats 4000000 in
set_option maxRecDepth 100000 in
theorem w_X11_premiumOf_21 {E : gE} {d : Nat} {Q : gO → gS → Prop}   (hd : 8 ≤ d) (s0 : Int32) (v : gV) (hp : p_X11_premiumOf_21   s0 v) (hQ : gqTI Q v (f_X11_premiumOf_21  s0 v)) : gG E m_X11_premiumOf d Q 0 0 (rS v) 21 [] [.int s0, .ref (gX E + (1 + 7))] := by
  obtain ⟨h4, hp⟩ := hp
  refine g_iald (kb_7 isBk_1) (lt_b isBk_1 (by decide)) h4 dX11_premiumOf_21 ?_
  exact g_iret rfl dX11_premiumOf_22 hQ
def f_X11_premiumOf_0  (x1 : Int32) (v : gV) : Int32 ⊕ String := Sum.elim (fun (sr2 : Int32) => f_X11_premiumOf_21  sr2 v) (fun (e : String) => Sum.inr e) (f_X6_placeOf_P 1 x1 v)
def p_X11_premiumOf_0  (x1 : Int32) (v : gV) : Prop := (p_X6_placeOf_P 1 x1 v) ∧ (∀ (sr2 : Int32), (f_X6_placeOf_P 1 x1 v) = Sum.inl sr2 → (p_X11_premiumOf_21   sr2 v))
set_option maxHeartbeats 4000000 in
set_option maxRecDepth 100000 in
theorem w_X11_premiumOf_0 {E : gE} {d : Nat} {Q : gO → gS → Prop}   (hd : 8 ≤ d) (x1 : Int32) (v : gV) (hp : p_X11_premiumOf_0   x1 v) (hQ : gqTI Q v (f_X11_premiumOf_0  x1 v)) : gG E m_X11_premiumOf d Q 1 6 (rS v) 0 [(0, .ref (gX E + 0)), (1, .int x1)] [] := by
  refine g_aload_n 0 dX11_premiumOf_0 rfl ?_
  refine r_get (.ref (gX E + 1)) f_X11_10_X11 rfl (by decide : kd 0 = (0, 8)) (show 0 < 572 by decide) dX11_premiumOf_1 (fun _ => rfl) ?_
  refine r_get (.ref (gX E + (1 + 1))) f_X11_108_X1 rfl (kbz isBk_1) (lt_b0 isBk_1) dX11_premiumOf_4 (fun _ => rfl) ?_
  refine r_get (.ref (gX E + (1 + 7))) f_X11_136_X5 rfl (kb_1 isBk_1) (lt_b isBk_1 (by decide)) dX11_premiumOf_7 (fun _ => rfl) ?_
  refine g_aload_n 0 dX11_premiumOf_10 rfl ?_
  refine r_get (.ref (gX E + 1)) f_X11_10_X11 rfl (by decide : kd 0 = (0, 8)) (show 0 < 572 by decide) dX11_premiumOf_11 (fun _ => rfl) ?_
  refine r_get (.ref (gX E + (1 + 1))) f_X11_108_X1 rfl (kbz isBk_1) (lt_b0 isBk_1) dX11_premiumOf_14 (fun _ => rfl) ?_
  refine g_iload_n 1 dX11_premiumOf_17 rfl ?_
  obtain ⟨h1, hp⟩ := hp
  refine g_callU (rest := [.ref (gX E + (1 + 7))]) s_X11_127_X5 rfl (c_X6_placeOf_P (E := E) (d := d - 1) 1 isBk_1 (by omega) x1 v h1) (kb_1 isBk_1) (lt_b isBk_1 (by decide)) rfl rfl (Nat.le_of_ble_eq_true rfl) (by omega) (by decide) (by decide) dX11_premiumOf_18 (adTI (fun sr2 h3 => ?_)) (axTI (fun e h3 => g_outs rfl rfl (qe (P := gqTI Q v) h3 hQ)))
  have hQ := ql (P := gqTI Q v) h3 hQ
  have hp := hp sr2 h3
  refine g_lv (lv' := []) [] rfl ?_
  exact w_X11_premiumOf_21  hd    sr2 v hp hQ
def f_X11_premiumOf  (x1 : Int32) (v : gV) : Int32 ⊕ String := f_X11_premiumOf_0 x1 v
def p_X11_premiumOf  (x1 : Int32) (v : gV) : Prop := p_X11_premiumOf_0 x1 v
theorem c_X11_premiumOf {E : gE} {d : Nat}   (hd : 8 ≤ d) (x1 : Int32) (v : gV) (hp : p_X11_premiumOf x1 v) : CT E m_X11_premiumOf d 1 6 [.ref (gX E + 0), .int x1] (rS v) (Cq (gOi (f_X11_premiumOf x1 v)) v) := CT.of ok_X11_premiumOf rfl (Nat.le_of_ble_eq_true rfl) (w_X11_premiumOf_0  hd x1 v hp ⟨rfl, rfl⟩)
def f_X11_endOf_21  (s0 : Int32) (v : gV) : Int32 ⊕ String := Sum.inl (v.1 (1 + 6) s0.toNatClampNeg)
def p_X11_endOf_21  (s0 : Int32) (v : gV) : Prop := (vp_in s0 8) ∧ (True)
set_option maxHeartbeats 4000000 in
set_option maxRecDepth 100000 in
theorem w_X11_endOf_21 {E : gE} {d : Nat} {Q : gO → gS → Prop}   (hd : 8 ≤ d) (s0 : Int32) (v : gV) (hp : p_X11_endOf_21   s0 v) (hQ : gqTI Q v (f_X11_endOf_21  s0 v)) : gG E m_X11_endOf d Q 0 0 (rS v) 21 [] [.int s0, .ref (gX E + (1 + 6))] := by
  obtain ⟨h4, hp⟩ := hp
  refine g_iald (kb_6 isBk_1) (lt_b isBk_1 (by decide)) h4 dX11_endOf_21 ?_
  exact g_iret rfl dX11_endOf_22 hQ
def f_X11_endOf_0  (x1 : Int32) (v : gV) : Int32 ⊕ String := Sum.elim (fun (sr2 : Int32) => f_X11_endOf_21  sr2 v) (fun (e : String) => Sum.inr e) (f_X6_placeOf_P 1 x1 v)
def p_X11_endOf_0  (x1 : Int32) (v : gV) : Prop := (p_X6_placeOf_P 1 x1 v) ∧ (∀ (sr2 : Int32), (f_X6_placeOf_P 1 x1 v) = Sum.inl sr2 → (p_X11_endOf_21   sr2 v))
set_option maxHeartbeats 4000000 in
set_option maxRecDepth 100000 in
theorem w_X11_endOf_0 {E : gE} {d : Nat} {Q : gO → gS → Prop}   (hd : 8 ≤ d) (x1 : Int32) (v : gV) (hp : p_X11_endOf_0   x1 v) (hQ : gqTI Q v (f_X11_endOf_0  x1 v)) : gG E m_X11_endOf d Q 1 6 (rS v) 0 [(0, .ref (gX E + 0)), (1, .int x1)] [] := by
  refine g_aload_n 0 dX11_endOf_0 rfl ?_
  refine r_get (.ref (gX E + 1)) f_X11_10_X11 rfl (by decide : kd 0 = (0, 8)) (show 0 < 572 by decide) dX11_endOf_1 (fun _ => rfl) ?_
  refine r_get (.ref (gX E + (1 + 1))) f_X11_108_X1 rfl (kbz isBk_1) (lt_b0 isBk_1) dX11_endOf_4 (fun _ => rfl) ?_
  refine r_get (.ref (gX E + (1 + 6))) f_X11_139_X5 rfl (kb_1 isBk_1) (lt_b isBk_1 (by decide)) dX11_endOf_7 (fun _ => rfl) ?_
  refine g_aload_n 0 dX11_endOf_10 rfl ?_
  refine r_get (.ref (gX E + 1)) f_X11_10_X11 rfl (by decide : kd 0 = (0, 8)) (show 0 < 572 by decide) dX11_endOf_11 (fun _ => rfl) ?_
  refine r_get (.ref (gX E + (1 + 1))) f_X11_108_X1 rfl (kbz isBk_1) (lt_b0 isBk_1) dX11_endOf_14 (fun _ => rfl) ?_
  refine g_iload_n 1 dX11_endOf_17 rfl ?_
  obtain ⟨h1, hp⟩ := hp
  refine g_callU (rest := [.ref (gX E + (1 + 6))]) s_X11_127_X5 rfl (c_X6_placeOf_P (E := E) (d := d - 1) 1 isBk_1 (by omega) x1 v h1) (kb_1 isBk_1) (lt_b isBk_1 (by decide)) rfl rfl (Nat.le_of_ble_eq_true rfl) (by omega) (by decide) (by decide) dX11_endOf_18 (adTI (fun sr2 h3 => ?_)) (axTI (fun e h3 => g_outs rfl rfl (qe (P := gqTI Q v) h3 hQ)))
  have hQ := ql (P := gqTI Q v) h3 hQ
  have hp := hp sr2 h3
  refine g_lv (lv' := []) [] rfl ?_
  exact w_X11_endOf_21  hd    sr2 v hp hQ
def f_X11_endOf  (x1 : Int32) (v : gV) : Int32 ⊕ String := f_X11_endOf_0 x1 v
def p_X11_endOf  (x1 : Int32) (v : gV) : Prop := p_X11_endOf_0 x1 v
theorem c_X11_endOf {E : gE} {d : Nat}   (hd : 8 ≤ d) (x1 : Int32) (v : gV) (hp : p_X11_endOf x1 v) : CT E m_X11_endOf d 1 6 [.ref (gX E + 0), .int x1] (rS v) (Cq (gOi (f_X11_endOf x1 v)) v) := CT.of ok_X11_endOf rfl (Nat.le_of_ble_eq_true rfl) (w_X11_endOf_0  hd x1 v hp ⟨rfl, rfl⟩)
def f_X11_isActive_18  (s0 : Int32) (v : gV) : Int32 ⊕ String := Sum.inl (f_X5_isActiveAt 1 s0 (v.1 1 5) v)
def p_X11_isActive_18  (s0 : Int32) (v : gV) : Prop := (p_X5_isActiveAt 1 s0 (v.1 1 5) v) ∧ (((f_X5_isActiveAt 1 s0 (v.1 1 5) v) = 0 ∨ (f_X5_isActiveAt 1 s0 (v.1 1 5) v) = 1) ∧ (True))
set_option maxHeartbeats 4000000 in
set_option maxRecDepth 100000 in
theorem w_X11_isActive_18 {E : gE} {d : Nat} {Q : gO → gS → Prop}   (hd : 8 ≤ d) (s0 : Int32) (v : gV) (hp : p_X11_isActive_18   s0 v) (hQ : gqTI Q v (f_X11_isActive_18  s0 v)) : gG E m_X11_isActive d Q 0 0 (rS v) 18 [(0, .ref (gX E + 0))] [.int s0, .ref (gX E + (1 + 1))] := by
  refine g_aload_n 0 dX11_isActive_18 rfl ?_
  refine r_get (.ref (gX E + 1)) f_X11_10_X11 rfl (by decide : kd 0 = (0, 8)) (show 0 < 572 by decide) dX11_isActive_19 (fun _ => rfl) ?_
  refine r_get (.int (v.1 1 5)) f_X11_102_X1 rfl (kbz isBk_1) (lt_b0 isBk_1) dX11_isActive_22 (fun _ => rfl) ?_
  obtain ⟨h4, hp⟩ := hp
  refine g_callV (rest := []) s_X11_142_X5 rfl (c_X5_isActiveAt (E := E) (d := d - 1) 1 isBk_1 (by omega) s0 (v.1 1 5) v h4) (kb_1 isBk_1) (lt_b isBk_1 (by decide)) rfl rfl (Nat.le_of_ble_eq_true rfl) (by omega) (by decide) (by decide) dX11_isActive_25 (adV ?_) axN
  obtain ⟨h5, hp⟩ := hp
  exact g_zret rfl (nz h5) dX11_isActive_28 hQ
def f_X11_isActive_0  (x1 : Int32) (v : gV) : Int32 ⊕ String := Sum.elim (fun (sr2 : Int32) => f_X11_isActive_18  sr2 v) (fun (e : String) => Sum.inr e) (f_X6_placeOf_P 1 x1 v)
def p_X11_isActive_0  (x1 : Int32) (v : gV) : Prop := (p_X6_placeOf_P 1 x1 v) ∧ (∀ (sr2 : Int32), (f_X6_placeOf_P 1 x1 v) = Sum.inl sr2 → (p_X11_isActive_18   sr2 v))
set_option maxHeartbeats 4000000 in
set_option maxRecDepth 100000 in
theorem w_X11_isActive_0 {E : gE} {d : Nat} {Q : gO → gS → Prop}   (hd : 8 ≤ d) (x1 : Int32) (v : gV) (hp : p_X11_isActive_0   x1 v) (hQ : gqTI Q v (f_X11_isActive_0  x1 v)) : gG E m_X11_isActive d Q 1 6 (rS v) 0 [(0, .ref (gX E + 0)), (1, .int x1)] [] := by
  refine g_aload_n 0 dX11_isActive_0 rfl ?_
  refine r_get (.ref (gX E + 1)) f_X11_10_X11 rfl (by decide : kd 0 = (0, 8)) (show 0 < 572 by decide) dX11_isActive_1 (fun _ => rfl) ?_
  refine r_get (.ref (gX E + (1 + 1))) f_X11_108_X1 rfl (kbz isBk_1) (lt_b0 isBk_1) dX11_isActive_4 (fun _ => rfl) ?_
  refine g_aload_n 0 dX11_isActive_7 rfl ?_
  refine r_get (.ref (gX E + 1)) f_X11_10_X11 rfl (by decide : kd 0 = (0, 8)) (show 0 < 572 by decide) dX11_isActive_8 (fun _ => rfl) ?_
  refine r_get (.ref (gX E + (1 + 1))) f_X11_108_X1 rfl (kbz isBk_1) (lt_b0 isBk_1) dX11_isActive_11 (fun _ => rfl) ?_
  refine g_iload_n 1 dX11_isActive_14 rfl ?_
  obtain ⟨h1, hp⟩ := hp
  refine g_callU (rest := [.ref (gX E + (1 + 1))]) s_X11_127_X5 rfl (c_X6_placeOf_P (E := E) (d := d - 1) 1 isBk_1 (by omega) x1 v h1) (kb_1 isBk_1) (lt_b isBk_1 (by decide)) rfl rfl (Nat.le_of_ble_eq_true rfl) (by omega) (by decide) (by decide) dX11_isActive_15 (adTI (fun sr2 h3 => ?_)) (axTI (fun e h3 => g_outs rfl rfl (qe (P := gqTI Q v) h3 hQ)))
  have hQ := ql (P := gqTI Q v) h3 hQ
  have hp := hp sr2 h3
  refine g_lv (lv' := [(0, .ref (gX E + 0))]) [0] rfl ?_
  exact w_X11_isActive_18  hd    sr2 v hp hQ
def f_X11_isActive  (x1 : Int32) (v : gV) : Int32 ⊕ String := f_X11_isActive_0 x1 v
def p_X11_isActive  (x1 : Int32) (v : gV) : Prop := p_X11_isActive_0 x1 v
theorem c_X11_isActive {E : gE} {d : Nat}   (hd : 8 ≤ d) (x1 : Int32) (v : gV) (hp : p_X11_isActive x1 v) : CT E m_X11_isActive d 1 6 [.ref (gX E + 0), .int x1] (rS v) (Cq (gOi (f_X11_isActive x1 v)) v) := CT.of ok_X11_isActive rfl (Nat.le_of_ble_eq_true rfl) (w_X11_isActive_0  hd x1 v hp ⟨rfl, rfl⟩)
def f_X11_claimAt_24  (s0 : Int32) (v : gV) : Int32 ⊕ String := Sum.inl (v.1 (1 + 11) s0.toNatClampNeg)
def p_X11_claimAt_24  (s0 : Int32) (v : gV) : Prop := (vp_in s0 12) ∧ (True)
set_option maxHeartbeats 4000000 in
set_option maxRecDepth 100000 in
theorem w_X11_claimAt_24 {E : gE} {d : Nat} {Q : gO → gS → Prop}   (hd : 8 ≤ d) (s0 : Int32) (v : gV) (hp : p_X11_claimAt_24   s0 v) (hQ : gqTI Q v (f_X11_claimAt_24  s0 v)) : gG E m_X11_claimAt d Q 0 0 (rS v) 24 [] [.int s0, .ref (gX E + (1 + 11))] := by
  obtain ⟨h4, hp⟩ := hp
  refine g_iald (kb_11 isBk_1) (lt_b isBk_1 (by decide)) h4 dX11_claimAt_24 ?_
  exact g_iret rfl dX11_claimAt_25 hQ
def f_X11_claimAt_0  (x1 : Int32) (v : gV) : Int32 ⊕ String := Sum.elim (fun (sr2 : Int32) => f_X11_claimAt_24  sr2 v) (fun (e : String) => Sum.inr e) (f_X11_checkedIndex x1 (v.1 (1 + 10) 1) v)
def p_X11_claimAt_0  (x1 : Int32) (v : gV) : Prop := (p_X11_checkedIndex x1 (v.1 (1 + 10) 1) v) ∧ (∀ (sr2 : Int32), (f_X11_checkedIndex x1 (v.1 (1 + 10) 1) v) = Sum.inl sr2 → (p_X11_claimAt_24   sr2 v))
set_option maxHeartbeats 4000000 in
set_option maxRecDepth 100000 in
theorem w_X11_claimAt_0 {E : gE} {d : Nat} {Q : gO → gS → Prop}   (hd : 8 ≤ d) (x1 : Int32) (v : gV) (hp : p_X11_claimAt_0   x1 v) (hQ : gqTI Q v (f_X11_claimAt_0  x1 v)) : gG E m_X11_claimAt d Q 1 6 (rS v) 0 [(0, .ref (gX E + 0)), (1, .int x1)] [] := by
  refine g_aload_n 0 dX11_claimAt_0 rfl ?_
  refine r_get (.ref (gX E + 1)) f_X11_10_X11 rfl (by decide : kd 0 = (0, 8)) (show 0 < 572 by decide) dX11_claimAt_1 (fun _ => rfl) ?_
  refine r_get (.ref (gX E + (1 + 10))) f_X11_146_X1 rfl (kbz isBk_1) (lt_b0 isBk_1) dX11_claimAt_4 (fun _ => rfl) ?_
  refine r_get (.ref (gX E + (1 + 11))) f_X11_153_X2 rfl (kb_10 isBk_1) (lt_b isBk_1 (by decide)) dX11_claimAt_7 (fun _ => rfl) ?_
  refine g_iload_n 1 dX11_claimAt_10 rfl ?_
  refine g_aload_n 0 dX11_claimAt_11 rfl ?_
  refine r_get (.ref (gX E + 1)) f_X11_10_X11 rfl (by decide : kd 0 = (0, 8)) (show 0 < 572 by decide) dX11_claimAt_12 (fun _ => rfl) ?_
  refine r_get (.ref (gX E + (1 + 10))) f_X11_146_X1 rfl (kbz isBk_1) (lt_b0 isBk_1) dX11_claimAt_15 (fun _ => rfl) ?_
  refine r_get (.int (v.1 (1 + 10) 1)) f_X11_150_X2 rfl (kb_10 isBk_1) (lt_b isBk_1 (by decide)) dX11_claimAt_18 (fun _ => rfl) ?_
  obtain ⟨h1, hp⟩ := hp
  refine g_callS (rest := [.ref (gX E + (1 + 11))]) s_X11_121 rfl (c_X11_checkedIndex (E := E) (d := d - 1)   (by omega) x1 (v.1 (1 + 10) 1) v h1) rfl rfl (Nat.le_of_ble_eq_true rfl) (by omega) (by decide) (by decide) dX11_claimAt_21 (adTI (fun sr2 h3 => ?_)) (axTI (fun e h3 => g_outs rfl rfl (qe (P := gqTI Q v) h3 hQ)))
  have hQ := ql (P := gqTI Q v) h3 hQ
  have hp := hp sr2 h3
  refine g_lv (lv' := []) [] rfl ?_
  exact w_X11_claimAt_24  hd    sr2 v hp hQ
def f_X11_claimAt  (x1 : Int32) (v : gV) : Int32 ⊕ String := f_X11_claimAt_0 x1 v
def p_X11_claimAt  (x1 : Int32) (v : gV) : Prop := p_X11_claimAt_0 x1 v
theorem c_X11_claimAt {E : gE} {d : Nat}   (hd : 8 ≤ d) (x1 : Int32) (v : gV) (hp : p_X11_claimAt x1 v) : CT E m_X11_claimAt d 1 6 [.ref (gX E + 0), .int x1] (rS v) (Cq (gOi (f_X11_claimAt x1 v)) v) := CT.of ok_X11_claimAt rfl (Nat.le_of_ble_eq_true rfl) (w_X11_claimAt_0  hd x1 v hp ⟨rfl, rfl⟩)
def f_X11_policyOf_21  (s0 : Int32) (v : gV) : Int32 ⊕ String := Sum.inl (v.1 (1 + 12) s0.toNatClampNeg)
def p_X11_policyOf_21  (s0 : Int32) (v : gV) : Prop := (vp_in s0 12) ∧ (True)
set_option maxHeartbeats 4000000 in
set_option maxRecDepth 100000 in
theorem w_X11_policyOf_21 {E : gE} {d : Nat} {Q : gO → gS → Prop}   (hd : 8 ≤ d) (s0 : Int32) (v : gV) (hp : p_X11_policyOf_21   s0 v) (hQ : gqTI Q v (f_X11_policyOf_21  s0 v)) : gG E m_X11_policyOf d Q 0 0 (rS v) 21 [] [.int s0, .ref (gX E + (1 + 12))] := by
  obtain ⟨h4, hp⟩ := hp
  refine g_iald (kb_12 isBk_1) (lt_b isBk_1 (by decide)) h4 dX11_policyOf_21 ?_
  exact g_iret rfl dX11_policyOf_22 hQ
def f_X11_policyOf_0  (x1 : Int32) (v : gV) : Int32 ⊕ String := Sum.elim (fun (sr2 : Int32) => f_X11_policyOf_21  sr2 v) (fun (e : String) => Sum.inr e) (f_X6_placeOf_C 1 x1 v)
def p_X11_policyOf_0  (x1 : Int32) (v : gV) : Prop := (p_X6_placeOf_C 1 x1 v) ∧ (∀ (sr2 : Int32), (f_X6_placeOf_C 1 x1 v) = Sum.inl sr2 → (p_X11_policyOf_21   sr2 v))
set_option maxHeartbeats 4000000 in
set_option maxRecDepth 100000 in
theorem w_X11_policyOf_0 {E : gE} {d : Nat} {Q : gO → gS → Prop}   (hd : 8 ≤ d) (x1 : Int32) (v : gV) (hp : p_X11_policyOf_0   x1 v) (hQ : gqTI Q v (f_X11_policyOf_0  x1 v)) : gG E m_X11_policyOf d Q 1 6 (rS v) 0 [(0, .ref (gX E + 0)), (1, .int x1)] [] := by
  refine g_aload_n 0 dX11_policyOf_0 rfl ?_
  refine r_get (.ref (gX E + 1)) f_X11_10_X11 rfl (by decide : kd 0 = (0, 8)) (show 0 < 572 by decide) dX11_policyOf_1 (fun _ => rfl) ?_
  refine r_get (.ref (gX E + (1 + 10))) f_X11_146_X1 rfl (kbz isBk_1) (lt_b0 isBk_1) dX11_policyOf_4 (fun _ => rfl) ?_
  refine r_get (.ref (gX E + (1 + 12))) f_X11_154_X2 rfl (kb_10 isBk_1) (lt_b isBk_1 (by decide)) dX11_policyOf_7 (fun _ => rfl) ?_
  refine g_aload_n 0 dX11_policyOf_10 rfl ?_
  refine r_get (.ref (gX E + 1)) f_X11_10_X11 rfl (by decide : kd 0 = (0, 8)) (show 0 < 572 by decide) dX11_policyOf_11 (fun _ => rfl) ?_
  refine r_get (.ref (gX E + (1 + 10))) f_X11_146_X1 rfl (kbz isBk_1) (lt_b0 isBk_1) dX11_policyOf_14 (fun _ => rfl) ?_
  refine g_iload_n 1 dX11_policyOf_17 rfl ?_
  obtain ⟨h1, hp⟩ := hp
  refine g_callU (rest := [.ref (gX E + (1 + 12))]) s_X11_156_X2 rfl (c_X6_placeOf_C (E := E) (d := d - 1) 1 isBk_1 (by omega) x1 v h1) (kb_10 isBk_1) (lt_b isBk_1 (by decide)) rfl rfl (Nat.le_of_ble_eq_true rfl) (by omega) (by decide) (by decide) dX11_policyOf_18 (adTI (fun sr2 h3 => ?_)) (axTI (fun e h3 => g_outs rfl rfl (qe (P := gqTI Q v) h3 hQ)))
  have hQ := ql (P := gqTI Q v) h3 hQ
  have hp := hp sr2 h3
  refine g_lv (lv' := []) [] rfl ?_
  exact w_X11_policyOf_21  hd    sr2 v hp hQ
def f_X11_policyOf  (x1 : Int32) (v : gV) : Int32 ⊕ String := f_X11_policyOf_0 x1 v
def p_X11_policyOf  (x1 : Int32) (v : gV) : Prop := p_X11_policyOf_0 x1 v
theorem c_X11_policyOf {E : gE} {d : Nat}   (hd : 8 ≤ d) (x1 : Int32) (v : gV) (hp : p_X11_policyOf x1 v) : CT E m_X11_policyOf d 1 6 [.ref (gX E + 0), .int x1] (rS v) (Cq (gOi (f_X11_policyOf x1 v)) v) := CT.of ok_X11_policyOf rfl (Nat.le_of_ble_eq_true rfl) (w_X11_policyOf_0  hd x1 v hp ⟨rfl, rfl⟩)
def f_X11_causeOf_21  (s0 : Int32) (v : gV) : Int32 ⊕ String := Sum.inl (v.1 (1 + 13) s0.toNatClampNeg)
def p_X11_causeOf_21  (s0 : Int32) (v : gV) : Prop := (vp_in s0 12) ∧ ((narrow .char (.int (v.1 (1 + 13) s0.toNatClampNeg)) = .int (v.1 (1 + 13) s0.toNatClampNeg)) ∧ (True))
set_option maxHeartbeats 4000000 in
set_option maxRecDepth 100000 in
theorem w_X11_causeOf_21 {E : gE} {d : Nat} {Q : gO → gS → Prop}   (hd : 8 ≤ d) (s0 : Int32) (v : gV) (hp : p_X11_causeOf_21   s0 v) (hQ : gqTI Q v (f_X11_causeOf_21  s0 v)) : gG E m_X11_causeOf d Q 0 0 (rS v) 21 [] [.int s0, .ref (gX E + (1 + 13))] := by
  obtain ⟨h4, hp⟩ := hp
  refine g_cald (kb_13 isBk_1) (lt_b isBk_1 (by decide)) h4 dX11_causeOf_21 ?_
  obtain ⟨h5, hp⟩ := hp
  exact g_zret rfl h5 dX11_causeOf_22 hQ
def f_X11_causeOf_0  (x1 : Int32) (v : gV) : Int32 ⊕ String := Sum.elim (fun (sr2 : Int32) => f_X11_causeOf_21  sr2 v) (fun (e : String) => Sum.inr e) (f_X6_placeOf_C 1 x1 v)
def p_X11_causeOf_0  (x1 : Int32) (v : gV) : Prop := (p_X6_placeOf_C 1 x1 v) ∧ (∀ (sr2 : Int32), (f_X6_placeOf_C 1 x1 v) = Sum.inl sr2 → (p_X11_causeOf_21   sr2 v))
set_option maxHeartbeats 4000000 in
set_option maxRecDepth 100000 in
theorem w_X11_causeOf_0 {E : gE} {d : Nat} {Q : gO → gS → Prop}   (hd : 8 ≤ d) (x1 : Int32) (v : gV) (hp : p_X11_causeOf_0   x1 v) (hQ : gqTI Q v (f_X11_causeOf_0  x1 v)) : gG E m_X11_causeOf d Q 1 6 (rS v) 0 [(0, .ref (gX E + 0)), (1, .int x1)] [] := by
  refine g_aload_n 0 dX11_causeOf_0 rfl ?_
  refine r_get (.ref (gX E + 1)) f_X11_10_X11 rfl (by decide : kd 0 = (0, 8)) (show 0 < 572 by decide) dX11_causeOf_1 (fun _ => rfl) ?_
  refine r_get (.ref (gX E + (1 + 10))) f_X11_146_X1 rfl (kbz isBk_1) (lt_b0 isBk_1) dX11_causeOf_4 (fun _ => rfl) ?_
  refine r_get (.ref (gX E + (1 + 13))) f_X11_157_X2 rfl (kb_10 isBk_1) (lt_b isBk_1 (by decide)) dX11_causeOf_7 (fun _ => rfl) ?_
  refine g_aload_n 0 dX11_causeOf_10 rfl ?_
  refine r_get (.ref (gX E + 1)) f_X11_10_X11 rfl (by decide : kd 0 = (0, 8)) (show 0 < 572 by decide) dX11_causeOf_11 (fun _ => rfl) ?_
  refine r_get (.ref (gX E + (1 + 10))) f_X11_146_X1 rfl (kbz isBk_1) (lt_b0 isBk_1) dX11_causeOf_14 (fun _ => rfl) ?_
  refine g_iload_n 1 dX11_causeOf_17 rfl ?_
  obtain ⟨h1, hp⟩ := hp
  refine g_callU (rest := [.ref (gX E + (1 + 13))]) s_X11_156_X2 rfl (c_X6_placeOf_C (E := E) (d := d - 1) 1 isBk_1 (by omega) x1 v h1) (kb_10 isBk_1) (lt_b isBk_1 (by decide)) rfl rfl (Nat.le_of_ble_eq_true rfl) (by omega) (by decide) (by decide) dX11_causeOf_18 (adTI (fun sr2 h3 => ?_)) (axTI (fun e h3 => g_outs rfl rfl (qe (P := gqTI Q v) h3 hQ)))
  have hQ := ql (P := gqTI Q v) h3 hQ
  have hp := hp sr2 h3
  refine g_lv (lv' := []) [] rfl ?_
  exact w_X11_causeOf_21  hd    sr2 v hp hQ
def f_X11_causeOf  (x1 : Int32) (v : gV) : Int32 ⊕ String := f_X11_causeOf_0 x1 v
def p_X11_causeOf  (x1 : Int32) (v : gV) : Prop := p_X11_causeOf_0 x1 v
theorem c_X11_causeOf {E : gE} {d : Nat}   (hd : 8 ≤ d) (x1 : Int32) (v : gV) (hp : p_X11_causeOf x1 v) : CT E m_X11_causeOf d 1 6 [.ref (gX E + 0), .int x1] (rS v) (Cq (gOi (f_X11_causeOf x1 v)) v) := CT.of ok_X11_causeOf rfl (Nat.le_of_ble_eq_true rfl) (w_X11_causeOf_0  hd x1 v hp ⟨rfl, rfl⟩)
def f_X11_amountOf_21  (s0 : Int32) (v : gV) : Int32 ⊕ String := Sum.inl (v.1 (1 + 14) s0.toNatClampNeg)
def p_X11_amountOf_21  (s0 : Int32) (v : gV) : Prop := (vp_in s0 12) ∧ (True)
set_option maxHeartbeats 4000000 in
set_option maxRecDepth 100000 in
theorem w_X11_amountOf_21 {E : gE} {d : Nat} {Q : gO → gS → Prop}   (hd : 8 ≤ d) (s0 : Int32) (v : gV) (hp : p_X11_amountOf_21   s0 v) (hQ : gqTI Q v (f_X11_amountOf_21  s0 v)) : gG E m_X11_amountOf d Q 0 0 (rS v) 21 [] [.int s0, .ref (gX E + (1 + 14))] := by
  obtain ⟨h4, hp⟩ := hp
  refine g_iald (kb_14 isBk_1) (lt_b isBk_1 (by decide)) h4 dX11_amountOf_21 ?_
  exact g_iret rfl dX11_amountOf_22 hQ
def f_X11_amountOf_0  (x1 : Int32) (v : gV) : Int32 ⊕ String := Sum.elim (fun (sr2 : Int32) => f_X11_amountOf_21  sr2 v) (fun (e : String) => Sum.inr e) (f_X6_placeOf_C 1 x1 v)
def p_X11_amountOf_0  (x1 : Int32) (v : gV) : Prop := (p_X6_placeOf_C 1 x1 v) ∧ (∀ (sr2 : Int32), (f_X6_placeOf_C 1 x1 v) = Sum.inl sr2 → (p_X11_amountOf_21   sr2 v))
set_option maxHeartbeats 4000000 in
set_option maxRecDepth 100000 in
theorem w_X11_amountOf_0 {E : gE} {d : Nat} {Q : gO → gS → Prop}   (hd : 8 ≤ d) (x1 : Int32) (v : gV) (hp : p_X11_amountOf_0   x1 v) (hQ : gqTI Q v (f_X11_amountOf_0  x1 v)) : gG E m_X11_amountOf d Q 1 6 (rS v) 0 [(0, .ref (gX E + 0)), (1, .int x1)] [] := by
  refine g_aload_n 0 dX11_amountOf_0 rfl ?_
  refine r_get (.ref (gX E + 1)) f_X11_10_X11 rfl (by decide : kd 0 = (0, 8)) (show 0 < 572 by decide) dX11_amountOf_1 (fun _ => rfl) ?_
  refine r_get (.ref (gX E + (1 + 10))) f_X11_146_X1 rfl (kbz isBk_1) (lt_b0 isBk_1) dX11_amountOf_4 (fun _ => rfl) ?_
  refine r_get (.ref (gX E + (1 + 14))) f_X11_161_X2 rfl (kb_10 isBk_1) (lt_b isBk_1 (by decide)) dX11_amountOf_7 (fun _ => rfl) ?_
  refine g_aload_n 0 dX11_amountOf_10 rfl ?_
  refine r_get (.ref (gX E + 1)) f_X11_10_X11 rfl (by decide : kd 0 = (0, 8)) (show 0 < 572 by decide) dX11_amountOf_11 (fun _ => rfl) ?_
  refine r_get (.ref (gX E + (1 + 10))) f_X11_146_X1 rfl (kbz isBk_1) (lt_b0 isBk_1) dX11_amountOf_14 (fun _ => rfl) ?_
  refine g_iload_n 1 dX11_amountOf_17 rfl ?_
  obtain ⟨h1, hp⟩ := hp
  refine g_callU (rest := [.ref (gX E + (1 + 14))]) s_X11_156_X2 rfl (c_X6_placeOf_C (E := E) (d := d - 1) 1 isBk_1 (by omega) x1 v h1) (kb_10 isBk_1) (lt_b isBk_1 (by decide)) rfl rfl (Nat.le_of_ble_eq_true rfl) (by omega) (by decide) (by decide) dX11_amountOf_18 (adTI (fun sr2 h3 => ?_)) (axTI (fun e h3 => g_outs rfl rfl (qe (P := gqTI Q v) h3 hQ)))
  have hQ := ql (P := gqTI Q v) h3 hQ
  have hp := hp sr2 h3
  refine g_lv (lv' := []) [] rfl ?_
  exact w_X11_amountOf_21  hd    sr2 v hp hQ
def f_X11_amountOf  (x1 : Int32) (v : gV) : Int32 ⊕ String := f_X11_amountOf_0 x1 v
def p_X11_amountOf  (x1 : Int32) (v : gV) : Prop := p_X11_amountOf_0 x1 v
theorem c_X11_amountOf {E : gE} {d : Nat}   (hd : 8 ≤ d) (x1 : Int32) (v : gV) (hp : p_X11_amountOf x1 v) : CT E m_X11_amountOf d 1 6 [.ref (gX E + 0), .int x1] (rS v) (Cq (gOi (f_X11_amountOf x1 v)) v) := CT.of ok_X11_amountOf rfl (Nat.le_of_ble_eq_true rfl) (w_X11_amountOf_0  hd x1 v hp ⟨rfl, rfl⟩)
def f_X11_paidOf_21  (s0 : Int32) (v : gV) : Int32 ⊕ String := Sum.inl (v.1 (1 + 15) s0.toNatClampNeg)
def p_X11_paidOf_21  (s0 : Int32) (v : gV) : Prop := (vp_in s0 12) ∧ (True)
set_option maxHeartbeats 4000000 in
set_option maxRecDepth 100000 in
theorem w_X11_paidOf_21 {E : gE} {d : Nat} {Q : gO → gS → Prop}   (hd : 8 ≤ d) (s0 : Int32) (v : gV) (hp : p_X11_paidOf_21   s0 v) (hQ : gqTI Q v (f_X11_paidOf_21  s0 v)) : gG E m_X11_paidOf d Q 0 0 (rS v) 21 [] [.int s0, .ref (gX E + (1 + 15))] := by
  obtain ⟨h4, hp⟩ := hp
  refine g_iald (kb_15 isBk_1) (lt_b isBk_1 (by decide)) h4 dX11_paidOf_21 ?_
  exact g_iret rfl dX11_paidOf_22 hQ
def f_X11_paidOf_0  (x1 : Int32) (v : gV) : Int32 ⊕ String := Sum.elim (fun (sr2 : Int32) => f_X11_paidOf_21  sr2 v) (fun (e : String) => Sum.inr e) (f_X6_placeOf_C 1 x1 v)
def p_X11_paidOf_0  (x1 : Int32) (v : gV) : Prop := (p_X6_placeOf_C 1 x1 v) ∧ (∀ (sr2 : Int32), (f_X6_placeOf_C 1 x1 v) = Sum.inl sr2 → (p_X11_paidOf_21   sr2 v))
set_option maxHeartbeats 4000000 in
set_option maxRecDepth 100000 in
theorem w_X11_paidOf_0 {E : gE} {d : Nat} {Q : gO → gS → Prop}   (hd : 8 ≤ d) (x1 : Int32) (v : gV) (hp : p_X11_paidOf_0   x1 v) (hQ : gqTI Q v (f_X11_paidOf_0  x1 v)) : gG E m_X11_paidOf d Q 1 6 (rS v) 0 [(0, .ref (gX E + 0)), (1, .int x1)] [] := by
  refine g_aload_n 0 dX11_paidOf_0 rfl ?_
  refine r_get (.ref (gX E + 1)) f_X11_10_X11 rfl (by decide : kd 0 = (0, 8)) (show 0 < 572 by decide) dX11_paidOf_1 (fun _ => rfl) ?_
  refine r_get (.ref (gX E + (1 + 10))) f_X11_146_X1 rfl (kbz isBk_1) (lt_b0 isBk_1) dX11_paidOf_4 (fun _ => rfl) ?_
  refine r_get (.ref (gX E + (1 + 15))) f_X11_164_X2 rfl (kb_10 isBk_1) (lt_b isBk_1 (by decide)) dX11_paidOf_7 (fun _ => rfl) ?_
  refine g_aload_n 0 dX11_paidOf_10 rfl ?_
  refine r_get (.ref (gX E + 1)) f_X11_10_X11 rfl (by decide : kd 0 = (0, 8)) (show 0 < 572 by decide) dX11_paidOf_11 (fun _ => rfl) ?_
  refine r_get (.ref (gX E + (1 + 10))) f_X11_146_X1 rfl (kbz isBk_1) (lt_b0 isBk_1) dX11_paidOf_14 (fun _ => rfl) ?_
  refine g_iload_n 1 dX11_paidOf_17 rfl ?_
  obtain ⟨h1, hp⟩ := hp
  refine g_callU (rest := [.ref (gX E + (1 + 15))]) s_X11_156_X2 rfl (c_X6_placeOf_C (E := E) (d := d - 1) 1 isBk_1 (by omega) x1 v h1) (kb_10 isBk_1) (lt_b isBk_1 (by decide)) rfl rfl (Nat.le_of_ble_eq_true rfl) (by omega) (by decide) (by decide) dX11_paidOf_18 (adTI (fun sr2 h3 => ?_)) (axTI (fun e h3 => g_outs rfl rfl (qe (P := gqTI Q v) h3 hQ)))
  have hQ := ql (P := gqTI Q v) h3 hQ
  have hp := hp sr2 h3
  refine g_lv (lv' := []) [] rfl ?_
  exact w_X11_paidOf_21  hd    sr2 v hp hQ
def f_X11_paidOf  (x1 : Int32) (v : gV) : Int32 ⊕ String := f_X11_paidOf_0 x1 v
def p_X11_paidOf  (x1 : Int32) (v : gV) : Prop := p_X11_paidOf_0 x1 v
theorem c_X11_paidOf {E : gE} {d : Nat}   (hd : 8 ≤ d) (x1 : Int32) (v : gV) (hp : p_X11_paidOf x1 v) : CT E m_X11_paidOf d 1 6 [.ref (gX E + 0), .int x1] (rS v) (Cq (gOi (f_X11_paidOf x1 v)) v) := CT.of ok_X11_paidOf rfl (Nat.le_of_ble_eq_true rfl) (w_X11_paidOf_0  hd x1 v hp ⟨rfl, rfl⟩)
def f_X11_ownPart_18  (s0 : Int32) (v : gV) : Int32 ⊕ String := Sum.inl (f_X2_ownPartAt 1 s0 v)
def p_X11_ownPart_18  (s0 : Int32) (v : gV) : Prop := (p_X2_ownPartAt 1 s0 v) ∧ (True)
set_option maxHeartbeats 4000000 in
set_option maxRecDepth 100000 in
theorem w_X11_ownPart_18 {E : gE} {d : Nat} {Q : gO → gS → Prop}   (hd : 8 ≤ d) (s0 : Int32) (v : gV) (hp : p_X11_ownPart_18   s0 v) (hQ : gqTI Q v (f_X11_ownPart_18  s0 v)) : gG E m_X11_ownPart d Q 0 0 (rS v) 18 [] [.int s0, .ref (gX E + (1 + 10))] := by
  obtain ⟨h4, hp⟩ := hp
  refine g_callV (rest := []) s_X11_178_X2 rfl (c_X2_ownPartAt (E := E) (d := d - 1) 1 isBk_1 (by omega) s0 v h4) (kb_10 isBk_1) (lt_b isBk_1 (by decide)) rfl rfl (Nat.le_of_ble_eq_true rfl) (by omega) (by decide) (by decide) dX11_ownPart_18 (adV ?_) axN
  exact g_iret rfl dX11_ownPart_21 hQ
def f_X11_ownPart_0  (x1 : Int32) (v : gV) : Int32 ⊕ String := Sum.elim (fun (sr2 : Int32) => f_X11_ownPart_18  sr2 v) (fun (e : String) => Sum.inr e) (f_X6_placeOf_C 1 x1 v)
def p_X11_ownPart_0  (x1 : Int32) (v : gV) : Prop := (p_X6_placeOf_C 1 x1 v) ∧ (∀ (sr2 : Int32), (f_X6_placeOf_C 1 x1 v) = Sum.inl sr2 → (p_X11_ownPart_18   sr2 v))
set_option maxHeartbeats 4000000 in
set_option maxRecDepth 100000 in
theorem w_X11_ownPart_0 {E : gE} {d : Nat} {Q : gO → gS → Prop}   (hd : 8 ≤ d) (x1 : Int32) (v : gV) (hp : p_X11_ownPart_0   x1 v) (hQ : gqTI Q v (f_X11_ownPart_0  x1 v)) : gG E m_X11_ownPart d Q 1 6 (rS v) 0 [(0, .ref (gX E + 0)), (1, .int x1)] [] := by
  refine g_aload_n 0 dX11_ownPart_0 rfl ?_
  refine r_get (.ref (gX E + 1)) f_X11_10_X11 rfl (by decide : kd 0 = (0, 8)) (show 0 < 572 by decide) dX11_ownPart_1 (fun _ => rfl) ?_
  refine r_get (.ref (gX E + (1 + 10))) f_X11_146_X1 rfl (kbz isBk_1) (lt_b0 isBk_1) dX11_ownPart_4 (fun _ => rfl) ?_
  refine g_aload_n 0 dX11_ownPart_7 rfl ?_
  refine r_get (.ref (gX E + 1)) f_X11_10_X11 rfl (by decide : kd 0 = (0, 8)) (show 0 < 572 by decide) dX11_ownPart_8 (fun _ => rfl) ?_
  refine r_get (.ref (gX E + (1 + 10))) f_X11_146_X1 rfl (kbz isBk_1) (lt_b0 isBk_1) dX11_ownPart_11 (fun _ => rfl) ?_
  refine g_iload_n 1 dX11_ownPart_14 rfl ?_
  obtain ⟨h1, hp⟩ := hp
  refine g_callU (rest := [.ref (gX E + (1 + 10))]) s_X11_156_X2 rfl (c_X6_placeOf_C (E := E) (d := d - 1) 1 isBk_1 (by omega) x1 v h1) (kb_10 isBk_1) (lt_b isBk_1 (by decide)) rfl rfl (Nat.le_of_ble_eq_true rfl) (by omega) (by decide) (by decide) dX11_ownPart_15 (adTI (fun sr2 h3 => ?_)) (axTI (fun e h3 => g_outs rfl rfl (qe (P := gqTI Q v) h3 hQ)))
  have hQ := ql (P := gqTI Q v) h3 hQ
  have hp := hp sr2 h3
  refine g_lv (lv' := []) [] rfl ?_
  exact w_X11_ownPart_18  hd    sr2 v hp hQ
def f_X11_ownPart  (x1 : Int32) (v : gV) : Int32 ⊕ String := f_X11_ownPart_0 x1 v
def p_X11_ownPart  (x1 : Int32) (v : gV) : Prop := p_X11_ownPart_0 x1 v
theorem c_X11_ownPart {E : gE} {d : Nat}   (hd : 8 ≤ d) (x1 : Int32) (v : gV) (hp : p_X11_ownPart x1 v) : CT E m_X11_ownPart d 1 6 [.ref (gX E + 0), .int x1] (rS v) (Cq (gOi (f_X11_ownPart x1 v)) v) := CT.of ok_X11_ownPart rfl (Nat.le_of_ble_eq_true rfl) (w_X11_ownPart_0  hd x1 v hp ⟨rfl, rfl⟩)
def f_X11_recovered_18  (s0 : Int32) (v : gV) : Int32 ⊕ String := Sum.inl (f_X2_recoveredAt 1 s0 v)
def p_X11_recovered_18  (s0 : Int32) (v : gV) : Prop := (p_X2_recoveredAt 1 s0 v) ∧ (True)
set_option maxHeartbeats 4000000 in
set_option maxRecDepth 100000 in
theorem w_X11_recovered_18 {E : gE} {d : Nat} {Q : gO → gS → Prop}   (hd : 8 ≤ d) (s0 : Int32) (v : gV) (hp : p_X11_recovered_18   s0 v) (hQ : gqTI Q v (f_X11_recovered_18  s0 v)) : gG E m_X11_recovered d Q 0 0 (rS v) 18 [] [.int s0, .ref (gX E + (1 + 10))] := by
  obtain ⟨h4, hp⟩ := hp
  refine g_callV (rest := []) s_X11_181_X2 rfl (c_X2_recoveredAt (E := E) (d := d - 1) 1 isBk_1 (by omega) s0 v h4) (kb_10 isBk_1) (lt_b isBk_1 (by decide)) rfl rfl (Nat.le_of_ble_eq_true rfl) (by omega) (by decide) (by decide) dX11_recovered_18 (adV ?_) axN
  exact g_iret rfl dX11_recovered_21 hQ
def f_X11_recovered_0  (x1 : Int32) (v : gV) : Int32 ⊕ String := Sum.elim (fun (sr2 : Int32) => f_X11_recovered_18  sr2 v) (fun (e : String) => Sum.inr e) (f_X6_placeOf_C 1 x1 v)
def p_X11_recovered_0  (x1 : Int32) (v : gV) : Prop := (p_X6_placeOf_C 1 x1 v) ∧ (∀ (sr2 : Int32), (f_X6_placeOf_C 1 x1 v) = Sum.inl sr2 → (p_X11_recovered_18   sr2 v))
set_option maxHeartbeats 4000000 in
set_option maxRecDepth 100000 in
theorem w_X11_recovered_0 {E : gE} {d : Nat} {Q : gO → gS → Prop}   (hd : 8 ≤ d) (x1 : Int32) (v : gV) (hp : p_X11_recovered_0   x1 v) (hQ : gqTI Q v (f_X11_recovered_0  x1 v)) : gG E m_X11_recovered d Q 1 6 (rS v) 0 [(0, .ref (gX E + 0)), (1, .int x1)] [] := by
  refine g_aload_n 0 dX11_recovered_0 rfl ?_
  refine r_get (.ref (gX E + 1)) f_X11_10_X11 rfl (by decide : kd 0 = (0, 8)) (show 0 < 572 by decide) dX11_recovered_1 (fun _ => rfl) ?_
  refine r_get (.ref (gX E + (1 + 10))) f_X11_146_X1 rfl (kbz isBk_1) (lt_b0 isBk_1) dX11_recovered_4 (fun _ => rfl) ?_
  refine g_aload_n 0 dX11_recovered_7 rfl ?_
  refine r_get (.ref (gX E + 1)) f_X11_10_X11 rfl (by decide : kd 0 = (0, 8)) (show 0 < 572 by decide) dX11_recovered_8 (fun _ => rfl) ?_
  refine r_get (.ref (gX E + (1 + 10))) f_X11_146_X1 rfl (kbz isBk_1) (lt_b0 isBk_1) dX11_recovered_11 (fun _ => rfl) ?_
  refine g_iload_n 1 dX11_recovered_14 rfl ?_
  obtain ⟨h1, hp⟩ := hp
  refine g_callU (rest := [.ref (gX E + (1 + 10))]) s_X11_156_X2 rfl (c_X6_placeOf_C (E := E) (d := d - 1) 1 isBk_1 (by omega) x1 v h1) (kb_10 isBk_1) (lt_b isBk_1 (by decide)) rfl rfl (Nat.le_of_ble_eq_true rfl) (by omega) (by decide) (by decide) dX11_recovered_15 (adTI (fun sr2 h3 => ?_)) (axTI (fun e h3 => g_outs rfl rfl (qe (P := gqTI Q v) h3 hQ)))
  have hQ := ql (P := gqTI Q v) h3 hQ
  have hp := hp sr2 h3
  refine g_lv (lv' := []) [] rfl ?_
  exact w_X11_recovered_18  hd    sr2 v hp hQ
def f_X11_recovered  (x1 : Int32) (v : gV) : Int32 ⊕ String := f_X11_recovered_0 x1 v
def p_X11_recovered  (x1 : Int32) (v : gV) : Prop := p_X11_recovered_0 x1 v
theorem c_X11_recovered {E : gE} {d : Nat}   (hd : 8 ≤ d) (x1 : Int32) (v : gV) (hp : p_X11_recovered x1 v) : CT E m_X11_recovered d 1 6 [.ref (gX E + 0), .int x1] (rS v) (Cq (gOi (f_X11_recovered x1 v)) v) := CT.of ok_X11_recovered rfl (Nat.le_of_ble_eq_true rfl) (w_X11_recovered_0  hd x1 v hp ⟨rfl, rfl⟩)
def f_X11_startOf_24  (s0 : Int32) (v : gV) : Int32 ⊕ String := Sum.inl (v.1 (1 + 31) s0.toNatClampNeg)
def p_X11_startOf_24  (s0 : Int32) (v : gV) : Prop := (vp_in s0 4) ∧ (True)
set_option maxHeartbeats 4000000 in
set_option maxRecDepth 100000 in
theorem w_X11_startOf_24 {E : gE} {d : Nat} {Q : gO → gS → Prop}   (hd : 8 ≤ d) (s0 : Int32) (v : gV) (hp : p_X11_startOf_24   s0 v) (hQ : gqTI Q v (f_X11_startOf_24  s0 v)) : gG E m_X11_startOf d Q 0 0 (rS v) 24 [] [.int s0, .ref (gX E + (1 + 31))] := by
  obtain ⟨h4, hp⟩ := hp
  refine g_iald (kb_31 isBk_1) (lt_b isBk_1 (by decide)) h4 dX11_startOf_24 ?_
  exact g_iret rfl dX11_startOf_25 hQ
def f_X11_startOf_0  (x1 : Int32) (v : gV) : Int32 ⊕ String := Sum.elim (fun (sr2 : Int32) => f_X11_startOf_24  sr2 v) (fun (e : String) => Sum.inr e) (f_X11_checkedIndex x1 (v.1 (1 + 30) 6) v)
def p_X11_startOf_0  (x1 : Int32) (v : gV) : Prop := (p_X11_checkedIndex x1 (v.1 (1 + 30) 6) v) ∧ (∀ (sr2 : Int32), (f_X11_checkedIndex x1 (v.1 (1 + 30) 6) v) = Sum.inl sr2 → (p_X11_startOf_24   sr2 v))
set_option maxHeartbeats 4000000 in
set_option maxRecDepth 100000 in
theorem w_X11_startOf_0 {E : gE} {d : Nat} {Q : gO → gS → Prop}   (hd : 8 ≤ d) (x1 : Int32) (v : gV) (hp : p_X11_startOf_0   x1 v) (hQ : gqTI Q v (f_X11_startOf_0  x1 v)) : gG E m_X11_startOf d Q 1 6 (rS v) 0 [(0, .ref (gX E + 0)), (1, .int x1)] [] := by
  refine g_aload_n 0 dX11_startOf_0 rfl ?_
  refine r_get (.ref (gX E + 1)) f_X11_10_X11 rfl (by decide : kd 0 = (0, 8)) (show 0 < 572 by decide) dX11_startOf_1 (fun _ => rfl) ?_
  refine r_get (.ref (gX E + (1 + 30))) f_X11_171_X1 rfl (kbz isBk_1) (lt_b0 isBk_1) dX11_startOf_4 (fun _ => rfl) ?_
  refine r_get (.ref (gX E + (1 + 31))) f_X11_184_X8 rfl (kb_30 isBk_1) (lt_b isBk_1 (by decide)) dX11_startOf_7 (fun _ => rfl) ?_
  refine g_iload_n 1 dX11_startOf_10 rfl ?_
  refine g_aload_n 0 dX11_startOf_11 rfl ?_
  refine r_get (.ref (gX E + 1)) f_X11_10_X11 rfl (by decide : kd 0 = (0, 8)) (show 0 < 572 by decide) dX11_startOf_12 (fun _ => rfl) ?_
  refine r_get (.ref (gX E + (1 + 30))) f_X11_171_X1 rfl (kbz isBk_1) (lt_b0 isBk_1) dX11_startOf_15 (fun _ => rfl) ?_
  refine r_get (.int (v.1 (1 + 30) 6)) f_X11_175_X8 rfl (kb_30 isBk_1) (lt_b isBk_1 (by decide)) dX11_startOf_18 (fun _ => rfl) ?_
  obtain ⟨h1, hp⟩ := hp
  refine g_callS (rest := [.ref (gX E + (1 + 31))]) s_X11_121 rfl (c_X11_checkedIndex (E := E) (d := d - 1)   (by omega) x1 (v.1 (1 + 30) 6) v h1) rfl rfl (Nat.le_of_ble_eq_true rfl) (by omega) (by decide) (by decide) dX11_startOf_21 (adTI (fun sr2 h3 => ?_)) (axTI (fun e h3 => g_outs rfl rfl (qe (P := gqTI Q v) h3 hQ)))
  have hQ := ql (P := gqTI Q v) h3 hQ
  have hp := hp sr2 h3
  refine g_lv (lv' := []) [] rfl ?_
  exact w_X11_startOf_24  hd    sr2 v hp hQ
def f_X11_startOf  (x1 : Int32) (v : gV) : Int32 ⊕ String := f_X11_startOf_0 x1 v
def p_X11_startOf  (x1 : Int32) (v : gV) : Prop := p_X11_startOf_0 x1 v
theorem c_X11_startOf {E : gE} {d : Nat}   (hd : 8 ≤ d) (x1 : Int32) (v : gV) (hp : p_X11_startOf x1 v) : CT E m_X11_startOf d 1 6 [.ref (gX E + 0), .int x1] (rS v) (Cq (gOi (f_X11_startOf x1 v)) v) := CT.of ok_X11_startOf rfl (Nat.le_of_ble_eq_true rfl) (w_X11_startOf_0  hd x1 v hp ⟨rfl, rfl⟩)
def f_X11_capacityOf_24  (s0 : Int32) (v : gV) : Int32 ⊕ String := Sum.inl (v.1 (1 + 33) s0.toNatClampNeg)
def p_X11_capacityOf_24  (s0 : Int32) (v : gV) : Prop := (vp_in s0 4) ∧ (True)
set_option maxHeartbeats 4000000 in
set_option maxRecDepth 100000 in
theorem w_X11_capacityOf_24 {E : gE} {d : Nat} {Q : gO → gS → Prop}   (hd : 8 ≤ d) (s0 : Int32) (v : gV) (hp : p_X11_capacityOf_24   s0 v) (hQ : gqTI Q v (f_X11_capacityOf_24  s0 v)) : gG E m_X11_capacityOf d Q 0 0 (rS v) 24 [] [.int s0, .ref (gX E + (1 + 33))] := by
  obtain ⟨h4, hp⟩ := hp
  refine g_iald (kb_33 isBk_1) (lt_b isBk_1 (by decide)) h4 dX11_capacityOf_24 ?_
  exact g_iret rfl dX11_capacityOf_25 hQ
def f_X11_capacityOf_0  (x1 : Int32) (v : gV) : Int32 ⊕ String := Sum.elim (fun (sr2 : Int32) => f_X11_capacityOf_24  sr2 v) (fun (e : String) => Sum.inr e) (f_X11_checkedIndex x1 (v.1 (1 + 30) 6) v)
def p_X11_capacityOf_0  (x1 : Int32) (v : gV) : Prop := (p_X11_checkedIndex x1 (v.1 (1 + 30) 6) v) ∧ (∀ (sr2 : Int32), (f_X11_checkedIndex x1 (v.1 (1 + 30) 6) v) = Sum.inl sr2 → (p_X11_capacityOf_24   sr2 v))
set_option maxHeartbeats 4000000 in
set_option maxRecDepth 100000 in
theorem w_X11_capacityOf_0 {E : gE} {d : Nat} {Q : gO → gS → Prop}   (hd : 8 ≤ d) (x1 : Int32) (v : gV) (hp : p_X11_capacityOf_0   x1 v) (hQ : gqTI Q v (f_X11_capacityOf_0  x1 v)) : gG E m_X11_capacityOf d Q 1 6 (rS v) 0 [(0, .ref (gX E + 0)), (1, .int x1)] [] := by
  refine g_aload_n 0 dX11_capacityOf_0 rfl ?_
  refine r_get (.ref (gX E + 1)) f_X11_10_X11 rfl (by decide : kd 0 = (0, 8)) (show 0 < 572 by decide) dX11_capacityOf_1 (fun _ => rfl) ?_
  refine r_get (.ref (gX E + (1 + 30))) f_X11_171_X1 rfl (kbz isBk_1) (lt_b0 isBk_1) dX11_capacityOf_4 (fun _ => rfl) ?_
  refine r_get (.ref (gX E + (1 + 33))) f_X11_187_X8 rfl (kb_30 isBk_1) (lt_b isBk_1 (by decide)) dX11_capacityOf_7 (fun _ => rfl) ?_
  refine g_iload_n 1 dX11_capacityOf_10 rfl ?_
  refine g_aload_n 0 dX11_capacityOf_11 rfl ?_
  refine r_get (.ref (gX E + 1)) f_X11_10_X11 rfl (by decide : kd 0 = (0, 8)) (show 0 < 572 by decide) dX11_capacityOf_12 (fun _ => rfl) ?_
  refine r_get (.ref (gX E + (1 + 30))) f_X11_171_X1 rfl (kbz isBk_1) (lt_b0 isBk_1) dX11_capacityOf_15 (fun _ => rfl) ?_
  refine r_get (.int (v.1 (1 + 30) 6)) f_X11_175_X8 rfl (kb_30 isBk_1) (lt_b isBk_1 (by decide)) dX11_capacityOf_18 (fun _ => rfl) ?_
  obtain ⟨h1, hp⟩ := hp
  refine g_callS (rest := [.ref (gX E + (1 + 33))]) s_X11_121 rfl (c_X11_checkedIndex (E := E) (d := d - 1)   (by omega) x1 (v.1 (1 + 30) 6) v h1) rfl rfl (Nat.le_of_ble_eq_true rfl) (by omega) (by decide) (by decide) dX11_capacityOf_21 (adTI (fun sr2 h3 => ?_)) (axTI (fun e h3 => g_outs rfl rfl (qe (P := gqTI Q v) h3 hQ)))
  have hQ := ql (P := gqTI Q v) h3 hQ
  have hp := hp sr2 h3
  refine g_lv (lv' := []) [] rfl ?_
  exact w_X11_capacityOf_24  hd    sr2 v hp hQ
def f_X11_capacityOf  (x1 : Int32) (v : gV) : Int32 ⊕ String := f_X11_capacityOf_0 x1 v
def p_X11_capacityOf  (x1 : Int32) (v : gV) : Prop := p_X11_capacityOf_0 x1 v
theorem c_X11_capacityOf {E : gE} {d : Nat}   (hd : 8 ≤ d) (x1 : Int32) (v : gV) (hp : p_X11_capacityOf x1 v) : CT E m_X11_capacityOf d 1 6 [.ref (gX E + 0), .int x1] (rS v) (Cq (gOi (f_X11_capacityOf x1 v)) v) := CT.of ok_X11_capacityOf rfl (Nat.le_of_ble_eq_true rfl) (w_X11_capacityOf_0  hd x1 v hp ⟨rfl, rfl⟩)
def f_X11_borne_17  (s0 : Int32) (v : gV) : (Int32 ⊕ String) × gV := (Sum.inl s0, v)
def p_X11_borne_17  (s0 : Int32) (v : gV) : Prop := True
set_option maxHeartbeats 4000000 in
set_option maxRecDepth 100000 in
theorem w_X11_borne_17 {E : gE} {d : Nat} {Q : gO → gS → Prop}   (hd : 8 ≤ d) (s0 : Int32) (v : gV) (hp : p_X11_borne_17   s0 v) (hQ : gqTIV Q (f_X11_borne_17  s0 v)) : gG E m_X11_borne d Q 0 0 (rS v) 17 [] [.int s0] := by
  exact g_iret rfl dX11_borne_17 hQ
def f_X11_borne_14  (s0 : Int32) (v : gV) : (Int32 ⊕ String) × gV := f_X11_borne_17  ((f_X8_countByRuns 1 s0 v).1) (f_X8_countByRuns 1 s0 v).2
def p_X11_borne_14  (s0 : Int32) (v : gV) : Prop := (p_X8_countByRuns 1 s0 v) ∧ (p_X11_borne_17   ((f_X8_countByRuns 1 s0 v).1) (f_X8_countByRuns 1 s0 v).2)
set_option maxHeartbeats 4000000 in
set_option maxRecDepth 100000 in
theorem w_X11_borne_14 {E : gE} {d : Nat} {Q : gO → gS → Prop}   (hd : 8 ≤ d) (s0 : Int32) (v : gV) (hp : p_X11_borne_14   s0 v) (hQ : gqTIV Q (f_X11_borne_14  s0 v)) : gG E m_X11_borne d Q 0 0 (rS v) 14 [] [.int s0, .ref (gX E + (1 + 30))] := by
  obtain ⟨h4, hp⟩ := hp
  refine g_callV (rest := []) s_X11_193_X8 rfl (c_X8_countByRuns (E := E) (d := d - 1) 1 isBk_1 (by omega) s0 v h4) (kb_30 isBk_1) (lt_b isBk_1 (by decide)) rfl rfl (Nat.le_of_ble_eq_true rfl) (by omega) (by decide) (by decide) dX11_borne_14 (adV ?_) axN
  exact w_X11_borne_17  hd    ((f_X8_countByRuns 1 s0 v).1) (f_X8_countByRuns 1 s0 v).2 hp hQ
def f_X11_borne_0  (x1 : Int32) (v : gV) : (Int32 ⊕ String) × gV := Sum.elim (fun (sr2 : Int32) => f_X11_borne_14  sr2 v) (fun (e : String) => (Sum.inr e, v)) (f_X11_checkedNumber x1 (1 : Int32) (30 : Int32) v)
def p_X11_borne_0  (x1 : Int32) (v : gV) : Prop := (p_X11_checkedNumber x1 (1 : Int32) (30 : Int32) v) ∧ (∀ (sr2 : Int32), (f_X11_checkedNumber x1 (1 : Int32) (30 : Int32) v) = Sum.inl sr2 → (p_X11_borne_14   sr2 v))
set_option maxHeartbeats 4000000 in
set_option maxRecDepth 100000 in
theorem w_X11_borne_0 {E : gE} {d : Nat} {Q : gO → gS → Prop}   (hd : 8 ≤ d) (x1 : Int32) (v : gV) (hp : p_X11_borne_0   x1 v) (hQ : gqTIV Q (f_X11_borne_0  x1 v)) : gG E m_X11_borne d Q 1 6 (rS v) 0 [(0, .ref (gX E + 0)), (1, .int x1)] [] := by
  refine g_aload_n 0 dX11_borne_0 rfl ?_
  refine r_get (.ref (gX E + 1)) f_X11_10_X11 rfl (by decide : kd 0 = (0, 8)) (show 0 < 572 by decide) dX11_borne_1 (fun _ => rfl) ?_
  refine r_get (.ref (gX E + (1 + 30))) f_X11_171_X1 rfl (kbz isBk_1) (lt_b0 isBk_1) dX11_borne_4 (fun _ => rfl) ?_
  refine g_iload_n 1 dX11_borne_7 rfl ?_
  refine g_iconst dX11_borne_8 (1 : Int32) (by decide) ?_
  refine g_bipush dX11_borne_9 (30 : Int32) (by decide) ?_
  obtain ⟨h1, hp⟩ := hp
  refine g_callS (rest := [.ref (gX E + (1 + 30))]) s_X11_190 rfl (c_X11_checkedNumber (E := E) (d := d - 1)   (by omega) x1 (1 : Int32) (30 : Int32) v h1) rfl rfl (Nat.le_of_ble_eq_true rfl) (by omega) (by decide) (by decide) dX11_borne_11 (adTI (fun sr2 h3 => ?_)) (axTI (fun e h3 => g_outs rfl rfl (qe (P := gqTIV Q) h3 hQ)))
  have hQ := ql (P := gqTIV Q) h3 hQ
  have hp := hp sr2 h3
  refine g_lv (lv' := []) [] rfl ?_
  exact w_X11_borne_14  hd    sr2 v hp hQ
def f_X11_borne  (x1 : Int32) (v : gV) : (Int32 ⊕ String) × gV := f_X11_borne_0 x1 v
def p_X11_borne  (x1 : Int32) (v : gV) : Prop := p_X11_borne_0 x1 v
theorem c_X11_borne {E : gE} {d : Nat}   (hd : 8 ≤ d) (x1 : Int32) (v : gV) (hp : p_X11_borne x1 v) : CT E m_X11_borne d 1 6 [.ref (gX E + 0), .int x1] (rS v) (Cq (gOi (f_X11_borne x1 v).1) (f_X11_borne x1 v).2) := CT.of ok_X11_borne rfl (Nat.le_of_ble_eq_true rfl) (w_X11_borne_0  hd x1 v hp ⟨rfl, rfl⟩)
