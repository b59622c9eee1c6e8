def f_L_law_3401 (N : Nat) (xs : Nat → Int32) (K28 : Int32 → gV → Int32 × gV)  (x5 : Int32) (v : gV) : Int32 × gV := K28 (x5 + 5) v
def p_L_law_3401 (N : Nat) (xs : Nat → Int32) (K28 : Int32 → gV → Int32 × gV)  (PK28 : Int32 → gV → Prop)  (x5 : Int32) (v : gV) : Prop := PK28 (x5 + 5) v
set_option maxHeartbeats 4000000 in
set_option maxRecDepth 100000 in
theorem w_L_law_3401 {E : gE} {d : Nat} {Q : gO → gS → Prop} (nf : Nat) (N : Nat) (xs : Nat → Int32) (hN : gva E 201 = N) (hxs : gxs E = xs) (hd : 16 ≤ d) (K28 : Int32 → gV → Int32 × gV)  (PK28 : Int32 → gV → Prop)  (hK28 : ∀ (x5 : Int32) (v : gV), PK28 x5 v → gqIV Q (K28 x5 v) → gG E m_L_law d Q (322 * nf) (2566 * nf) (rS v) 28 [(0, .ref (gva E 200)), (1, .ref (gX E + 0)), (2, .ref (gX E + 559)), (3, .ref (gX E + 570)), (4, .ref (gX E + 571)), (5, .int x5)] [])  (x5 : Int32) (v : gV) (hp : p_L_law_3401 N xs K28 PK28 x5 v) (hQ : gqIV Q (f_L_law_3401 N xs K28 x5 v)) : gG E m_L_law d Q (322 * nf + 0) (2566 * nf + 0) (rS v) 3401 [(0, .ref (gva E 200)), (1, .ref (gX E + 0)), (2, .ref (gX E + 559)), (3, .ref (gX E + 570)), (4, .ref (gX E + 571)), (5, .int x5)] [] := by
  refine g_iinc 5 (x5 + 5) [(5, .int (x5 + 5)), (0, .ref (gva E 200)), (1, .ref (gX E + 0)), (2, .ref (gX E + 559)), (3, .ref (gX E + 570)), (4, .ref (gX E + 571))] dL_law_3401 rfl rfl (by decide) rfl ?_
  refine g_goto 28 dL_law_3404 (by decide) ?_
  refine g_room (k' := (322 * nf)) (n' := (2566 * nf)) (by omega) (by omega) ?_
  refine g_lv (lv' := [(0, .ref (gva E 200)), (1, .ref (gX E + 0)), (2, .ref (gX E + 559)), (3, .ref (gX E + 570)), (4, .ref (gX E + 571)), (5, .int (x5 + 5))]) [1, 2, 3, 4, 5, 0] rfl ?_
  exact hK28 (x5 + 5) v hp hQ
def f_L_law_385 (N : Nat) (xs : Nat → Int32) (K28 : Int32 → gV → Int32 × gV)  (x5 : Int32) (v : gV) : Int32 × gV := f_L_law_3401 N xs K28 x5 v
def p_L_law_385 (N : Nat) (xs : Nat → Int32) (K28 : Int32 → gV → Int32 × gV)  (PK28 : Int32 → gV → Prop)  (x5 : Int32) (v : gV) : Prop := p_L_law_3401 N xs K28 PK28 x5 v
set_option maxHeartbeats 4000000 in
set_option maxRecDepth 100000 in
theorem w_L_law_385 {E : gE} {d : Nat} {Q : gO → gS → Prop} (nf : Nat) (N : Nat) (xs : Nat → Int32) (hN : gva E 201 = N) (hxs : gxs E = xs) (hd : 16 ≤ d) (K28 : Int32 → gV → Int32 × gV)  (PK28 : Int32 → gV → Prop)  (hK28 : ∀ (x5 : Int32) (v : gV), PK28 x5 v → gqIV Q (K28 x5 v) → gG E m_L_law d Q (322 * nf) (2566 * nf) (rS v) 28 [(0, .ref (gva E 200)), (1, .ref (gX E + 0)), (2, .ref (gX E + 559)), (3, .ref (gX E + 570)), (4, .ref (gX E + 571)), (5, .int x5)] [])  (x5 : Int32) (v : gV) (hp : p_L_law_385 N xs K28 PK28 x5 v) (hQ : gqIV Q (f_L_law_385 N xs K28 x5 v)) : gG E m_L_law d Q (322 * nf + 0) (2566 * nf + 0) (rS v) 385 [(0, .ref (gva E 200)), (1, .ref (gX E + 0)), (2, .ref (gX E + 559)), (3, .ref (gX E + 570)), (4, .ref (gX E + 571)), (5, .int x5)] [] := by
  refine g_goto 3401 dL_law_385 (by decide) ?_
  refine g_room (k' := (322 * nf + 0)) (n' := (2566 * nf + 0)) (by omega) (by omega) ?_
  exact w_L_law_3401 nf N xs hN hxs hd K28 PK28 hK28 x5 v hp hQ
def f_L_law_355 (N : Nat) (xs : Nat → Int32) (K28 : Int32 → gV → Int32 × gV)  (x5 : Int32) (x6 : Int32) (s0 : Int32) (v : gV) : Int32 × gV := if (f_X12_thrown  v) = x6 then (if x6 = 0 then (if (lg_cmp (v.2.1 570 (0 : Int32).toNatClampNeg) s0.toInt64) = 0 then (f_L_law_385 N xs K28 x5 v) else (((0 : Int32), v))) else (f_L_law_385 N xs K28 x5 v)) else (((0 : Int32), v))
def p_L_law_355 (N : Nat) (xs : Nat → Int32) (K28 : Int32 → gV → Int32 × gV)  (PK28 : Int32 → gV → Prop)  (x5 : Int32) (x6 : Int32) (s0 : Int32) (v : gV) : Prop := (p_X12_thrown  v) ∧ ((((f_X12_thrown  v) = x6) → (((x6 = 0) → ((((lg_cmp (v.2.1 570 (0 : Int32).toNatClampNeg) s0.toInt64) = 0) → (p_L_law_385 N xs K28 PK28 x5 v)) ∧ (¬ ((lg_cmp (v.2.1 570 (0 : Int32).toNatClampNeg) s0.toInt64) = 0) → (True)))) ∧ (¬ (x6 = 0) → (p_L_law_385 N xs K28 PK28 x5 v)))) ∧ (¬ ((f_X12_thrown  v) = x6) → (True)))
set_option maxHeartbeats 4000000 in
set_option maxRecDepth 100000 in
theorem w_L_law_355 {E : gE} {d : Nat} {Q : gO → gS → Prop} (nf : Nat) (N : Nat) (xs : Nat → Int32) (hN : gva E 201 = N) (hxs : gxs E = xs) (hd : 16 ≤ d) (K28 : Int32 → gV → Int32 × gV)  (PK28 : Int32 → gV → Prop)  (hK28 : ∀ (x5 : Int32) (v : gV), PK28 x5 v → gqIV Q (K28 x5 v) → gG E m_L_law d Q (322 * nf) (2566 * nf) (rS v) 28 [(0, .ref (gva E 200)), (1, .ref (gX E + 0)), (2, .ref (gX E + 559)), (3, .ref (gX E + 570)), (4, .ref (gX E + 571)), (5, .int x5)] [])  (x5 : Int32) (x6 : Int32) (s0 : Int32) (v : gV) (hp : p_L_law_355 N xs K28 PK28 x5 x6 s0 v) (hQ : gqIV Q (f_L_law_355 N xs K28 x5 x6 s0 v)) : gG E m_L_law d Q (322 * nf + 0) (2566 * nf + 0) (rS v) 355 [(0, .ref (gva E 200)), (1, .ref (gX E + 0)), (2, .ref (gX E + 559)), (3, .ref (gX E + 570)), (4, .ref (gX E + 571)), (5, .int x5), (6, .int x6)] [.int s0] := by
  refine g_istore [(7, .int s0), (0, .ref (gva E 200)), (1, .ref (gX E + 0)), (2, .ref (gX E + 559)), (3, .ref (gX E + 570)), (4, .ref (gX E + 571)), (5, .int x5), (6, .int x6)] dL_law_355 (by decide) rfl ?_
  refine g_aload_n 3 dL_law_357 rfl ?_
  obtain ⟨h12, hp⟩ := hp
  refine g_callV (rest := []) s_L_193_X12 rfl (c_X12_thrown (E := E) (d := d - 1)   (by omega)  v h12) (by decide : kd 559 = (0, 9)) (show 559 < 572 by decide) rfl rfl (Nat.le_of_ble_eq_true rfl) (by omega) (by omega) (by omega) dL_law_358 (adV ?_) axN
  refine g_iload 7 dL_law_361 rfl ?_
  refine g_icmp_eq 368 dL_law_363 (by decide) (fun h13 => ?_) (fun h13 => ?_)
  · have hQ := qp (P := gqIV Q) h13 hQ
    have hp := hp.1 h13
    refine g_iload 7 dL_law_368 rfl ?_
    refine g_if_ne 385 dL_law_370 (by decide) (fun h14 => ?_) (fun h14 => ?_)
    · have hQ := qn (P := gqIV Q) h14 hQ
      have hp := hp.2 h14
      refine g_room (k' := (322 * nf + 0)) (n' := (2566 * nf + 0)) (by omega) (by omega) ?_
      refine g_lv (lv' := [(0, .ref (gva E 200)), (1, .ref (gX E + 0)), (2, .ref (gX E + 559)), (3, .ref (gX E + 570)), (4, .ref (gX E + 571)), (5, .int x5)]) [1, 2, 3, 4, 5, 6] rfl ?_
      exact w_L_law_385 nf N xs hN hxs hd K28 PK28 hK28 x5 v hp hQ
    · have hQ := qp (P := gqIV Q) h14 hQ
      have hp := hp.1 h14
      refine g_aload_n 4 dL_law_373 rfl ?_
      refine g_iconst dL_law_374 (0 : Int32) (by decide) ?_
      refine g_lald (by decide : kd 570 = (3, 1)) (show 570 < 572 by decide) (show ¬ (_ ∨ _) by decide) dL_law_375 ?_
      refine g_iload 0 dL_law_376 rfl ?_
      refine g_i2l dL_law_378 ?_
      refine g_lcmp dL_law_379 ?_
      refine g_if_eq 385 dL_law_380 (by decide) (fun h15 => ?_) (fun h15 => ?_)
      · have hQ := qp (P := gqIV Q) h15 hQ
        have hp := hp.1 h15
        refine g_room (k' := (322 * nf + 0)) (n' := (2566 * nf + 0)) (by omega) (by omega) ?_
        refine g_lv (lv' := [(0, .ref (gva E 200)), (1, .ref (gX E + 0)), (2, .ref (gX E + 559)), (3, .ref (gX E + 570)), (4, .ref (gX E + 571)), (5, .int x5)]) [1, 2, 3, 4, 5, 6] rfl ?_
        exact w_L_law_385 nf N xs hN hxs hd K28 PK28 hK28 x5 v hp hQ
      · have hQ := qn (P := gqIV Q) h15 hQ
        have hp := hp.2 h15
        refine g_iconst dL_law_383 (0 : Int32) (by decide) ?_
        exact g_zret rfl rfl dL_law_384 hQ
  · have hQ := qn (P := gqIV Q) h13 hQ
    have hp := hp.2 h13
    refine g_iconst dL_law_366 (0 : Int32) (by decide) ?_
    exact g_zret rfl rfl dL_law_367 hQ
def f_L_law_331 (N : Nat) (xs : Nat → Int32) (K28 : Int32 → gV → Int32 × gV)  (x5 : Int32) (s0 : Int32) (v : gV) : Int32 × gV := f_L_law_355 N xs K28 x5 s0 ((f_X12_insure (xs (x5 + (1 : Int32)).toNatClampNeg) (xs (x5 + (2 : Int32)).toNatClampNeg) (xs (x5 + (3 : Int32)).toNatClampNeg) v).1) (f_X12_insure (xs (x5 + (1 : Int32)).toNatClampNeg) (xs (x5 + (2 : Int32)).toNatClampNeg) (xs (x5 + (3 : Int32)).toNatClampNeg) v).2
def p_L_law_331 (N : Nat) (xs : Nat → Int32) (K28 : Int32 → gV → Int32 × gV)  (PK28 : Int32 → gV → Prop)  (x5 : Int32) (s0 : Int32) (v : gV) : Prop := (vp_in (x5 + (1 : Int32)) N) ∧ ((vp_in (x5 + (2 : Int32)) N) ∧ ((vp_in (x5 + (3 : Int32)) N) ∧ ((p_X12_insure (xs (x5 + (1 : Int32)).toNatClampNeg) (xs (x5 + (2 : Int32)).toNatClampNeg) (xs (x5 + (3 : Int32)).toNatClampNeg) v) ∧ (p_L_law_355 N xs K28 PK28 x5 s0 ((f_X12_insure (xs (x5 + (1 : Int32)).toNatClampNeg) (xs (x5 + (2 : Int32)).toNatClampNeg) (xs (x5 + (3 : Int32)).toNatClampNeg) v).1) (f_X12_insure (xs (x5 + (1 : Int32)).toNatClampNeg) (xs (x5 + (2 : Int32)).toNatClampNeg) (xs (x5 + (3 : Int32)).toNatClampNeg) v).2))))
set_option maxHeartbeats 4000000 in
set_option maxRecDepth 100000 in
theorem w_L_law_331 {E : gE} {d : Nat} {Q : gO → gS → Prop} (nf : Nat) (N : Nat) (xs : Nat → Int32) (hN : gva E 201 = N) (hxs : gxs E = xs) (hd : 16 ≤ d) (K28 : Int32 → gV → Int32 × gV)  (PK28 : Int32 → gV → Prop)  (hK28 : ∀ (x5 : Int32) (v : gV), PK28 x5 v → gqIV Q (K28 x5 v) → gG E m_L_law d Q (322 * nf) (2566 * nf) (rS v) 28 [(0, .ref (gva E 200)), (1, .ref (gX E + 0)), (2, .ref (gX E + 559)), (3, .ref (gX E + 570)), (4, .ref (gX E + 571)), (5, .int x5)] [])  (x5 : Int32) (s0 : Int32) (v : gV) (hp : p_L_law_331 N xs K28 PK28 x5 s0 v) (hQ : gqIV Q (f_L_law_331 N xs K28 x5 s0 v)) : gG E m_L_law d Q (322 * nf + 0) (2566 * nf + 0) (rS v) 331 [(0, .ref (gva E 200)), (1, .ref (gX E + 0)), (2, .ref (gX E + 559)), (3, .ref (gX E + 570)), (4, .ref (gX E + 571)), (5, .int x5)] [.int s0] := by
  refine g_istore [(6, .int s0), (0, .ref (gva E 200)), (1, .ref (gX E + 0)), (2, .ref (gX E + 559)), (3, .ref (gX E + 570)), (4, .ref (gX E + 571)), (5, .int x5)] dL_law_331 (by decide) rfl ?_
  refine g_aload_n 3 dL_law_333 rfl ?_
  refine g_aload_n 1 dL_law_334 rfl ?_
  refine g_iload 6 dL_law_335 rfl ?_
  refine g_iconst dL_law_337 (1 : Int32) (by decide) ?_
  refine g_iadd dL_law_338 ?_
  obtain ⟨h8, hp⟩ := hp
  refine g_sld hN hxs h8 dL_law_339 ?_
  refine g_aload_n 1 dL_law_340 rfl ?_
  refine g_iload 6 dL_law_341 rfl ?_
  refine g_iconst dL_law_343 (2 : Int32) (by decide) ?_
  refine g_iadd dL_law_344 ?_
  obtain ⟨h9, hp⟩ := hp
  refine g_sld hN hxs h9 dL_law_345 ?_
  refine g_aload_n 1 dL_law_346 rfl ?_
  refine g_iload 6 dL_law_347 rfl ?_
  refine g_iconst dL_law_349 (3 : Int32) (by decide) ?_
  refine g_iadd dL_law_350 ?_
  obtain ⟨h10, hp⟩ := hp
  refine g_sld hN hxs h10 dL_law_351 ?_
  obtain ⟨h11, hp⟩ := hp
  refine g_callV (rest := []) s_L_192_X12 rfl (c_X12_insure (E := E) (d := d - 1)   (by omega) (xs (x5 + (1 : Int32)).toNatClampNeg) (xs (x5 + (2 : Int32)).toNatClampNeg) (xs (x5 + (3 : Int32)).toNatClampNeg) v h11) (by decide : kd 559 = (0, 9)) (show 559 < 572 by decide) rfl rfl (Nat.le_of_ble_eq_true rfl) (by omega) (by omega) (by omega) dL_law_352 (adV ?_) axN
  refine g_room (k' := (322 * nf + 0)) (n' := (2566 * nf + 0)) (by omega) (by omega) ?_
  refine g_lv (lv' := [(0, .ref (gva E 200)), (1, .ref (gX E + 0)), (2, .ref (gX E + 559)), (3, .ref (gX E + 570)), (4, .ref (gX E + 571)), (5, .int x5), (6, .int s0)]) [1, 2, 3, 4, 5, 6, 0] rfl ?_
  exact w_L_law_355 nf N xs hN hxs hd K28 PK28 hK28 x5 s0 ((f_X12_insure (xs (x5 + (1 : Int32)).toNatClampNeg) (xs (x5 + (2 : Int32)).toNatClampNeg) (xs (x5 + (3 : Int32)).toNatClampNeg) v).1) (f_X12_insure (xs (x5 + (1 : Int32)).toNatClampNeg) (xs (x5 + (2 : Int32)).toNatClampNeg) (xs (x5 + (3 : Int32)).toNatClampNeg) v).2 hp hQ
def f_L_law_308 (N : Nat) (xs : Nat → Int32) (K28 : Int32 → gV → Int32 × gV)  (x5 : Int32) (v : gV) : Int32 × gV := f_L_law_331 N xs K28 x5 ((f_L_insure (xs (x5 + (1 : Int32)).toNatClampNeg) (xs (x5 + (2 : Int32)).toNatClampNeg) (xs (x5 + (3 : Int32)).toNatClampNeg) v).1) (f_L_insure (xs (x5 + (1 : Int32)).toNatClampNeg) (xs (x5 + (2 : Int32)).toNatClampNeg) (xs (x5 + (3 : Int32)).toNatClampNeg) v).2
def p_L_law_308 (N : Nat) (xs : Nat → Int32) (K28 : Int32 → gV → Int32 × gV)  (PK28 : Int32 → gV → Prop)  (x5 : Int32) (v : gV) : Prop := (vp_in (x5 + (1 : Int32)) N) ∧ ((vp_in (x5 + (2 : Int32)) N) ∧ ((vp_in (x5 + (3 : Int32)) N) ∧ ((p_L_insure (xs (x5 + (1 : Int32)).toNatClampNeg) (xs (x5 + (2 : Int32)).toNatClampNeg) (xs (x5 + (3 : Int32)).toNatClampNeg) v) ∧ (p_L_law_331 N xs K28 PK28 x5 ((f_L_insure (xs (x5 + (1 : Int32)).toNatClampNeg) (xs (x5 + (2 : Int32)).toNatClampNeg) (xs (x5 + (3 : Int32)).toNatClampNeg) v).1) (f_L_insure (xs (x5 + (1 : Int32)).toNatClampNeg) (xs (x5 + (2 : Int32)).toNatClampNeg) (xs (x5 + (3 : Int32)).toNatClampNeg) v).2))))
set_option maxHeartbeats 4000000 in
set_option maxRecDepth 100000 in
theorem w_L_law_308 {E : gE} {d : Nat} {Q : gO → gS → Prop} (nf : Nat) (N : Nat) (xs : Nat → Int32) (hN : gva E 201 = N) (hxs : gxs E = xs) (hd : 16 ≤ d) (K28 : Int32 → gV → Int32 × gV)  (PK28 : Int32 → gV → Prop)  (hK28 : ∀ (x5 : Int32) (v : gV), PK28 x5 v → gqIV Q (K28 x5 v) → gG E m_L_law d Q (322 * nf) (2566 * nf) (rS v) 28 [(0, .ref (gva E 200)), (1, .ref (gX E + 0)), (2, .ref (gX E + 559)), (3, .ref (gX E + 570)), (4, .ref (gX E + 571)), (5, .int x5)] [])  (x5 : Int32) (v : gV) (hp : p_L_law_308 N xs K28 PK28 x5 v) (hQ : gqIV Q (f_L_law_308 N xs K28 x5 v)) : gG E m_L_law d Q (322 * nf + 4) (2566 * nf + 24) (rS v) 308 [(0, .ref (gva E 200)), (1, .ref (gX E + 0)), (2, .ref (gX E + 559)), (3, .ref (gX E + 570)), (4, .ref (gX E + 571)), (5, .int x5)] [] := by
  refine g_aload_n 1 dL_law_308 rfl ?_
  refine g_aload_n 0 dL_law_309 rfl ?_
  refine g_iload 5 dL_law_310 rfl ?_
  refine g_iconst dL_law_312 (1 : Int32) (by decide) ?_
  refine g_iadd dL_law_313 ?_
  obtain ⟨h4, hp⟩ := hp
  refine g_sld hN hxs h4 dL_law_314 ?_
  refine g_aload_n 0 dL_law_315 rfl ?_
  refine g_iload 5 dL_law_316 rfl ?_
  refine g_iconst dL_law_318 (2 : Int32) (by decide) ?_
  refine g_iadd dL_law_319 ?_
  obtain ⟨h5, hp⟩ := hp
  refine g_sld hN hxs h5 dL_law_320 ?_
  refine g_aload_n 0 dL_law_321 rfl ?_
  refine g_iload 5 dL_law_322 rfl ?_
  refine g_iconst dL_law_324 (3 : Int32) (by decide) ?_
  refine g_iadd dL_law_325 ?_
  obtain ⟨h6, hp⟩ := hp
  refine g_sld hN hxs h6 dL_law_326 ?_
  refine g_aload_n 3 dL_law_327 rfl ?_
  obtain ⟨h7, hp⟩ := hp
  refine g_callT (rest := []) s_L_187 rfl (c_L_insure (E := E) (d := d - 1)   (by omega) (xs (x5 + (1 : Int32)).toNatClampNeg) (xs (x5 + (2 : Int32)).toNatClampNeg) (xs (x5 + (3 : Int32)).toNatClampNeg) v h7) cqn rfl rfl (Nat.le_of_ble_eq_true rfl) (by omega) (by omega) (by omega) dL_law_328 (adV ?_)
  refine g_room (k' := (322 * nf + 0)) (n' := (2566 * nf + 0)) (by omega) (by omega) ?_
  exact w_L_law_331 nf N xs hN hxs hd K28 PK28 hK28 x5 ((f_L_insure (xs (x5 + (1 : Int32)).toNatClampNeg) (xs (x5 + (2 : Int32)).toNatClampNeg) (xs (x5 + (3 : Int32)).toNatClampNeg) v).1) (f_L_insure (xs (x5 + (1 : Int32)).toNatClampNeg) (xs (x5 + (2 : Int32)).toNatClampNeg) (xs (x5 + (3 : Int32)).toNatClampNeg) v).2 hp hQ
def f_L_law_441 (N : Nat) (xs : Nat → Int32) (K28 : Int32 → gV → Int32 × gV)  (x5 : Int32) (v : gV) : Int32 × gV := f_L_law_3401 N xs K28 x5 v
def p_L_law_441 (N : Nat) (xs : Nat → Int32) (K28 : Int32 → gV → Int32 × gV)  (PK28 : Int32 → gV → Prop)  (x5 : Int32) (v : gV) : Prop := p_L_law_3401 N xs K28 PK28 x5 v
set_option maxHeartbeats 4000000 in
set_option maxRecDepth 100000 in
theorem w_L_law_441 {E : gE} {d : Nat} {Q : gO → gS → Prop} (nf : Nat) (N : Nat) (xs : Nat → Int32) (hN : gva E 201 = N) (hxs : gxs E = xs) (hd : 16 ≤ d) (K28 : Int32 → gV → Int32 × gV)  (PK28 : Int32 → gV → Prop)  (hK28 : ∀ (x5 : Int32) (v : gV), PK28 x5 v → gqIV Q (K28 x5 v) → gG E m_L_law d Q (322 * nf) (2566 * nf) (rS v) 28 [(0, .ref (gva E 200)), (1, .ref (gX E + 0)), (2, .ref (gX E + 559)), (3, .ref (gX E + 570)), (4, .ref (gX E + 571)), (5, .int x5)] [])  (x5 : Int32) (v : gV) (hp : p_L_law_441 N xs K28 PK28 x5 v) (hQ : gqIV Q (f_L_law_441 N xs K28 x5 v)) : gG E m_L_law d Q (322 * nf + 0) (2566 * nf + 0) (rS v) 441 [(0, .ref (gva E 200)), (1, .ref (gX E + 0)), (2, .ref (gX E + 559)), (3, .ref (gX E + 570)), (4, .ref (gX E + 571)), (5, .int x5)] [] := by
  refine g_goto 3401 dL_law_441 (by decide) ?_
  refine g_room (k' := (322 * nf + 0)) (n' := (2566 * nf + 0)) (by omega) (by omega) ?_
  exact w_L_law_3401 nf N xs hN hxs hd K28 PK28 hK28 x5 v hp hQ
def f_L_law_411 (N : Nat) (xs : Nat → Int32) (K28 : Int32 → gV → Int32 × gV)  (x5 : Int32) (x6 : Int32) (s0 : Int32) (v : gV) : Int32 × gV := if (f_X12_thrown  v) = x6 then (if x6 = 0 then (if (lg_cmp (v.2.1 570 (0 : Int32).toNatClampNeg) s0.toInt64) = 0 then (f_L_law_441 N xs K28 x5 v) else (((0 : Int32), v))) else (f_L_law_441 N xs K28 x5 v)) else (((0 : Int32), v))
def p_L_law_411 (N : Nat) (xs : Nat → Int32) (K28 : Int32 → gV → Int32 × gV)  (PK28 : Int32 → gV → Prop)  (x5 : Int32) (x6 : Int32) (s0 : Int32) (v : gV) : Prop := (p_X12_thrown  v) ∧ ((((f_X12_thrown  v) = x6) → (((x6 = 0) → ((((lg_cmp (v.2.1 570 (0 : Int32).toNatClampNeg) s0.toInt64) = 0) → (p_L_law_441 N xs K28 PK28 x5 v)) ∧ (¬ ((lg_cmp (v.2.1 570 (0 : Int32).toNatClampNeg) s0.toInt64) = 0) → (True)))) ∧ (¬ (x6 = 0) → (p_L_law_441 N xs K28 PK28 x5 v)))) ∧ (¬ ((f_X12_thrown  v) = x6) → (True)))
set_option maxHeartbeats 4000000 in
set_option maxRecDepth 100000 in
theorem w_L_law_411 {E : gE} {d : Nat} {Q : gO → gS → Prop} (nf : Nat) (N : Nat) (xs : Nat → Int32) (hN : gva E 201 = N) (hxs : gxs E = xs) (hd : 16 ≤ d) (K28 : Int32 → gV → Int32 × gV)  (PK28 : Int32 → gV → Prop)  (hK28 : ∀ (x5 : Int32) (v : gV), PK28 x5 v → gqIV Q (K28 x5 v) → gG E m_L_law d Q (322 * nf) (2566 * nf) (rS v) 28 [(0, .ref (gva E 200)), (1, .ref (gX E + 0)), (2, .ref (gX E + 559)), (3, .ref (gX E + 570)), (4, .ref (gX E + 571)), (5, .int x5)] [])  (x5 : Int32) (x6 : Int32) (s0 : Int32) (v : gV) (hp : p_L_law_411 N xs K28 PK28 x5 x6 s0 v) (hQ : gqIV Q (f_L_law_411 N xs K28 x5 x6 s0 v)) : gG E m_L_law d Q (322 * nf + 0) (2566 * nf + 0) (rS v) 411 [(0, .ref (gva E 200)), (1, .ref (gX E + 0)), (2, .ref (gX E + 559)), (3, .ref (gX E + 570)), (4, .ref (gX E + 571)), (5, .int x5), (6, .int x6)] [.int s0] := by
  refine g_istore [(7, .int s0), (0, .ref (gva E 200)), (1, .ref (gX E + 0)), (2, .ref (gX E + 559)), (3, .ref (gX E + 570)), (4, .ref (gX E + 571)), (5, .int x5), (6, .int x6)] dL_law_411 (by decide) rfl ?_
  refine g_aload_n 3 dL_law_413 rfl ?_
  obtain ⟨h21, hp⟩ := hp
  refine g_callV (rest := []) s_L_193_X12 rfl (c_X12_thrown (E := E) (d := d - 1)   (by omega)  v h21) (by decide : kd 559 = (0, 9)) (show 559 < 572 by decide) rfl rfl (Nat.le_of_ble_eq_true rfl) (by omega) (by omega) (by omega) dL_law_414 (adV ?_) axN
  refine g_iload 7 dL_law_417 rfl ?_
  refine g_icmp_eq 424 dL_law_419 (by decide) (fun h22 => ?_) (fun h22 => ?_)
  · have hQ := qp (P := gqIV Q) h22 hQ
    have hp := hp.1 h22
    refine g_iload 7 dL_law_424 rfl ?_
    refine g_if_ne 441 dL_law_426 (by decide) (fun h23 => ?_) (fun h23 => ?_)
    · have hQ := qn (P := gqIV Q) h23 hQ
      have hp := hp.2 h23
      refine g_room (k' := (322 * nf + 0)) (n' := (2566 * nf + 0)) (by omega) (by omega) ?_
      refine g_lv (lv' := [(0, .ref (gva E 200)), (1, .ref (gX E + 0)), (2, .ref (gX E + 559)), (3, .ref (gX E + 570)), (4, .ref (gX E + 571)), (5, .int x5)]) [1, 2, 3, 4, 5, 6] rfl ?_
      exact w_L_law_441 nf N xs hN hxs hd K28 PK28 hK28 x5 v hp hQ
    · have hQ := qp (P := gqIV Q) h23 hQ
      have hp := hp.1 h23
      refine g_aload_n 4 dL_law_429 rfl ?_
      refine g_iconst dL_law_430 (0 : Int32) (by decide) ?_
      refine g_lald (by decide : kd 570 = (3, 1)) (show 570 < 572 by decide) (show ¬ (_ ∨ _) by decide) dL_law_431 ?_
      refine g_iload 0 dL_law_432 rfl ?_
      refine g_i2l dL_law_434 ?_
      refine g_lcmp dL_law_435 ?_
      refine g_if_eq 441 dL_law_436 (by decide) (fun h24 => ?_) (fun h24 => ?_)
      · have hQ := qp (P := gqIV Q) h24 hQ
        have hp := hp.1 h24
        refine g_room (k' := (322 * nf + 0)) (n' := (2566 * nf + 0)) (by omega) (by omega) ?_
        refine g_lv (lv' := [(0, .ref (gva E 200)), (1, .ref (gX E + 0)), (2, .ref (gX E + 559)), (3, .ref (gX E + 570)), (4, .ref (gX E + 571)), (5, .int x5)]) [1, 2, 3, 4, 5, 6] rfl ?_
        exact w_L_law_441 nf N xs hN hxs hd K28 PK28 hK28 x5 v hp hQ
      · have hQ := qn (P := gqIV Q) h24 hQ
        have hp := hp.2 h24
        refine g_iconst dL_law_439 (0 : Int32) (by decide) ?_
        exact g_zret rfl rfl dL_law_440 hQ
  · have hQ := qn (P := gqIV Q) h22 hQ
    have hp := hp.2 h22
    refine g_iconst dL_law_422 (0 : Int32) (by decide) ?_
    exact g_zret rfl rfl dL_law_423 hQ
def f_L_law_399 (N : Nat) (xs : Nat → Int32) (K28 : Int32 → gV → Int32 × gV)  (x5 : Int32) (s0 : Int32) (v : gV) : Int32 × gV := f_L_law_411 N xs K28 x5 s0 ((f_X12_endPolicy (xs (x5 + (1 : Int32)).toNatClampNeg) v).1) (f_X12_endPolicy (xs (x5 + (1 : Int32)).toNatClampNeg) v).2
def p_L_law_399 (N : Nat) (xs : Nat → Int32) (K28 : Int32 → gV → Int32 × gV)  (PK28 : Int32 → gV → Prop)  (x5 : Int32) (s0 : Int32) (v : gV) : Prop := (vp_in (x5 + (1 : Int32)) N) ∧ ((p_X12_endPolicy (xs (x5 + (1 : Int32)).toNatClampNeg) v) ∧ (p_L_law_411 N xs K28 PK28 x5 s0 ((f_X12_endPolicy (xs (x5 + (1 : Int32)).toNatClampNeg) v).1) (f_X12_endPolicy (xs (x5 + (1 : Int32)).toNatClampNeg) v).2))
set_option maxHeartbeats 4000000 in
set_option maxRecDepth 100000 in
theorem w_L_law_399 {E : gE} {d : Nat} {Q : gO → gS → Prop} (nf : Nat) (N : Nat) (xs : Nat → Int32) (hN : gva E 201 = N) (hxs : gxs E = xs) (hd : 16 ≤ d) (K28 : Int32 → gV → Int32 × gV)  (PK28 : Int32 → gV → Prop)  (hK28 : ∀ (x5 : Int32) (v : gV), PK28 x5 v → gqIV Q (K28 x5 v) → gG E m_L_law d Q (322 * nf) (2566 * nf) (rS v) 28 [(0, .ref (gva E 200)), (1, .ref (gX E + 0)), (2, .ref (gX E + 559)), (3, .ref (gX E + 570)), (4, .ref (gX E + 571)), (5, .int x5)] [])  (x5 : Int32) (s0 : Int32) (v : gV) (hp : p_L_law_399 N xs K28 PK28 x5 s0 v) (hQ : gqIV Q (f_L_law_399 N xs K28 x5 s0 v)) : gG E m_L_law d Q (322 * nf + 0) (2566 * nf + 0) (rS v) 399 [(0, .ref (gva E 200)), (1, .ref (gX E + 0)), (2, .ref (gX E + 559)), (3, .ref (gX E + 570)), (4, .ref (gX E + 571)), (5, .int x5)] [.int s0] := by
  refine g_istore [(6, .int s0), (0, .ref (gva E 200)), (1, .ref (gX E + 0)), (2, .ref (gX E + 559)), (3, .ref (gX E + 570)), (4, .ref (gX E + 571)), (5, .int x5)] dL_law_399 (by decide) rfl ?_
  refine g_aload_n 3 dL_law_401 rfl ?_
  refine g_aload_n 1 dL_law_402 rfl ?_
  refine g_iload 6 dL_law_403 rfl ?_
  refine g_iconst dL_law_405 (1 : Int32) (by decide) ?_
  refine g_iadd dL_law_406 ?_
  obtain ⟨h19, hp⟩ := hp
  refine g_sld hN hxs h19 dL_law_407 ?_
  obtain ⟨h20, hp⟩ := hp
  refine g_callV (rest := []) s_L_199_X12 rfl (c_X12_endPolicy (E := E) (d := d - 1)   (by omega) (xs (x5 + (1 : Int32)).toNatClampNeg) v h20) (by decide : kd 559 = (0, 9)) (show 559 < 572 by decide) rfl rfl (Nat.le_of_ble_eq_true rfl) (by omega) (by omega) (by omega) dL_law_408 (adV ?_) axN
  refine g_room (k' := (322 * nf + 0)) (n' := (2566 * nf + 0)) (by omega) (by omega) ?_
  refine g_lv (lv' := [(0, .ref (gva E 200)), (1, .ref (gX E + 0)), (2, .ref (gX E + 559)), (3, .ref (gX E + 570)), (4, .ref (gX E + 571)), (5, .int x5), (6, .int s0)]) [1, 2, 3, 4, 5, 6, 0] rfl ?_
  exact w_L_law_411 nf N xs hN hxs hd K28 PK28 hK28 x5 s0 ((f_X12_endPolicy (xs (x5 + (1 : Int32)).toNatClampNeg) v).1) (f_X12_endPolicy (xs (x5 + (1 : Int32)).toNatClampNeg) v).2 hp hQ
def f_L_law_388 (N : Nat) (xs : Nat → Int32) (K28 : Int32 → gV → Int32 × gV)  (x5 : Int32) (v : gV) : Int32 × gV := f_L_law_399 N xs K28 x5 ((f_L_endPolicy (xs (x5 + (1 : Int32)).toNatClampNeg) v).1) (f_L_endPolicy (xs (x5 + (1 : Int32)).toNatClampNeg) v).2
def p_L_law_388 (N : Nat) (xs : Nat → Int32) (K28 : Int32 → gV → Int32 × gV)  (PK28 : Int32 → gV → Prop)  (x5 : Int32) (v : gV) : Prop := (vp_in (x5 + (1 : Int32)) N) ∧ ((p_L_endPolicy (xs (x5 + (1 : Int32)).toNatClampNeg) v) ∧ (p_L_law_399 N xs K28 PK28 x5 ((f_L_endPolicy (xs (x5 + (1 : Int32)).toNatClampNeg) v).1) (f_L_endPolicy (xs (x5 + (1 : Int32)).toNatClampNeg) v).2))
set_option maxHeartbeats 4000000 in
set_option maxRecDepth 100000 in
theorem w_L_law_388 {E : gE} {d : Nat} {Q : gO → gS → Prop} (nf : Nat) (N : Nat) (xs : Nat → Int32) (hN : gva E 201 = N) (hxs : gxs E = xs) (hd : 16 ≤ d) (K28 : Int32 → gV → Int32 × gV)  (PK28 : Int32 → gV → Prop)  (hK28 : ∀ (x5 : Int32) (v : gV), PK28 x5 v → gqIV Q (K28 x5 v) → gG E m_L_law d Q (322 * nf) (2566 * nf) (rS v) 28 [(0, .ref (gva E 200)), (1, .ref (gX E + 0)), (2, .ref (gX E + 559)), (3, .ref (gX E + 570)), (4, .ref (gX E + 571)), (5, .int x5)] [])  (x5 : Int32) (v : gV) (hp : p_L_law_388 N xs K28 PK28 x5 v) (hQ : gqIV Q (f_L_law_388 N xs K28 x5 v)) : gG E m_L_law d Q (322 * nf + 2) (2566 * nf + 12) (rS v) 388 [(0, .ref (gva E 200)), (1, .ref (gX E + 0)), (2, .ref (gX E + 559)), (3, .ref (gX E + 570)), (4, .ref (gX E + 571)), (5, .int x5)] [] := by
  refine g_aload_n 1 dL_law_388 rfl ?_
  refine g_aload_n 0 dL_law_389 rfl ?_
  refine g_iload 5 dL_law_390 rfl ?_
  refine g_iconst dL_law_392 (1 : Int32) (by decide) ?_
  refine g_iadd dL_law_393 ?_
  obtain ⟨h17, hp⟩ := hp
  refine g_sld hN hxs h17 dL_law_394 ?_
  refine g_aload_n 3 dL_law_395 rfl ?_
  obtain ⟨h18, hp⟩ := hp
  refine g_callT (rest := []) s_L_196 rfl (c_L_endPolicy (E := E) (d := d - 1)   (by omega) (xs (x5 + (1 : Int32)).toNatClampNeg) v h18) cqn rfl rfl (Nat.le_of_ble_eq_true rfl) (by omega) (by omega) (by omega) dL_law_396 (adV ?_)
  refine g_room (k' := (322 * nf + 0)) (n' := (2566 * nf + 0)) (by omega) (by omega) ?_
  exact w_L_law_399 nf N xs hN hxs hd K28 PK28 hK28 x5 ((f_L_endPolicy (xs (x5 + (1 : Int32)).toNatClampNeg) v).1) (f_L_endPolicy (xs (x5 + (1 : Int32)).toNatClampNeg) v).2 hp hQ
def f_L_law_533 (N : Nat) (xs : Nat → Int32) (K28 : Int32 → gV → Int32 × gV)  (x5 : Int32) (v : gV) : Int32 × gV := f_L_law_3401 N xs K28 x5 v
def p_L_law_533 (N : Nat) (xs : Nat → Int32) (K28 : Int32 → gV → Int32 × gV)  (PK28 : Int32 → gV → Prop)  (x5 : Int32) (v : gV) : Prop := p_L_law_3401 N xs K28 PK28 x5 v
set_option maxHeartbeats 4000000 in
set_option maxRecDepth 100000 in
theorem w_L_law_533 {E : gE} {d : Nat} {Q : gO → gS → Prop} (nf : Nat) (N : Nat) (xs : Nat → Int32) (hN : gva E 201 = N) (hxs : gxs E = xs) (hd : 16 ≤ d) (K28 : Int32 → gV → Int32 × gV)  (PK28 : Int32 → gV → Prop)  (hK28 : ∀ (x5 : Int32) (v : gV), PK28 x5 v → gqIV Q (K28 x5 v) → gG E m_L_law d Q (322 * nf) (2566 * nf) (rS v) 28 [(0, .ref (gva E 200)), (1, .ref (gX E + 0)), (2, .ref (gX E + 559)), (3, .ref (gX E + 570)), (4, .ref (gX E + 571)), (5, .int x5)] [])  (x5 : Int32) (v : gV) (hp : p_L_law_533 N xs K28 PK28 x5 v) (hQ : gqIV Q (f_L_law_533 N xs K28 x5 v)) : gG E m_L_law d Q (322 * nf + 0) (2566 * nf + 0) (rS v) 533 [(0, .ref (gva E 200)), (1, .ref (gX E + 0)), (2, .ref (gX E + 559)), (3, .ref (gX E + 570)), (4, .ref (gX E + 571)), (5, .int x5)] [] := by
  refine g_goto 3401 dL_law_533 (by decide) ?_
  refine g_room (k' := (322 * nf + 0)) (n' := (2566 * nf + 0)) (by omega) (by omega) ?_
  exact w_L_law_3401 nf N xs hN hxs hd K28 PK28 hK28 x5 v hp hQ
def f_L_law_503 (N : Nat) (xs : Nat → Int32) (K28 : Int32 → gV → Int32 × gV)  (x5 : Int32) (x6 : Int32) (s0 : Int32) (v : gV) : Int32 × gV := if (f_X12_thrown  v) = x6 then (if x6 = 0 then (if (lg_cmp (v.2.1 570 (0 : Int32).toNatClampNeg) s0.toInt64) = 0 then (f_L_law_533 N xs K28 x5 v) else (((0 : Int32), v))) else (f_L_law_533 N xs K28 x5 v)) else (((0 : Int32), v))
def p_L_law_503 (N : Nat) (xs : Nat → Int32) (K28 : Int32 → gV → Int32 × gV)  (PK28 : Int32 → gV → Prop)  (x5 : Int32) (x6 : Int32) (s0 : Int32) (v : gV) : Prop := (p_X12_thrown  v) ∧ ((((f_X12_thrown  v) = x6) → (((x6 = 0) → ((((lg_cmp (v.2.1 570 (0 : Int32).toNatClampNeg) s0.toInt64) = 0) → (p_L_law_533 N xs K28 PK28 x5 v)) ∧ (¬ ((lg_cmp (v.2.1 570 (0 : Int32).toNatClampNeg) s0.toInt64) = 0) → (True)))) ∧ (¬ (x6 = 0) → (p_L_law_533 N xs K28 PK28 x5 v)))) ∧ (¬ ((f_X12_thrown  v) = x6) → (True)))
set_option maxHeartbeats 4000000 in
set_option maxRecDepth 100000 in
theorem w_L_law_503 {E : gE} {d : Nat} {Q : gO → gS → Prop} (nf : Nat) (N : Nat) (xs : Nat → Int32) (hN : gva E 201 = N) (hxs : gxs E = xs) (hd : 16 ≤ d) (K28 : Int32 → gV → Int32 × gV)  (PK28 : Int32 → gV → Prop)  (hK28 : ∀ (x5 : Int32) (v : gV), PK28 x5 v → gqIV Q (K28 x5 v) → gG E m_L_law d Q (322 * nf) (2566 * nf) (rS v) 28 [(0, .ref (gva E 200)), (1, .ref (gX E + 0)), (2, .ref (gX E + 559)), (3, .ref (gX E + 570)), (4, .ref (gX E + 571)), (5, .int x5)] [])  (x5 : Int32) (x6 : Int32) (s0 : Int32) (v : gV) (hp : p_L_law_503 N xs K28 PK28 x5 x6 s0 v) (hQ : gqIV Q (f_L_law_503 N xs K28 x5 x6 s0 v)) : gG E m_L_law d Q (322 * nf + 0) (2566 * nf + 0) (rS v) 503 [(0, .ref (gva E 200)), (1, .ref (gX E + 0)), (2, .ref (gX E + 559)), (3, .ref (gX E + 570)), (4, .ref (gX E + 571)), (5, .int x5), (6, .int x6)] [.int s0] := by
  refine g_istore [(7, .int s0), (0, .ref (gva E 200)), (1, .ref (gX E + 0)), (2, .ref (gX E + 559)), (3, .ref (gX E + 570)), (4, .ref (gX E + 571)), (5, .int x5), (6, .int x6)] dL_law_503 (by decide) rfl ?_
  refine g_aload_n 3 dL_law_505 rfl ?_
  obtain ⟨h36, hp⟩ := hp
  refine g_callV (rest := []) s_L_193_X12 rfl (c_X12_thrown (E := E) (d := d - 1)   (by omega)  v h36) (by decide : kd 559 = (0, 9)) (show 559 < 572 by decide) rfl rfl (Nat.le_of_ble_eq_true rfl) (by omega) (by omega) (by omega) dL_law_506 (adV ?_) axN
  refine g_iload 7 dL_law_509 rfl ?_
  refine g_icmp_eq 516 dL_law_511 (by decide) (fun h37 => ?_) (fun h37 => ?_)
  · have hQ := qp (P := gqIV Q) h37 hQ
    have hp := hp.1 h37
    refine g_iload 7 dL_law_516 rfl ?_
    refine g_if_ne 533 dL_law_518 (by decide) (fun h38 => ?_) (fun h38 => ?_)
    · have hQ := qn (P := gqIV Q) h38 hQ
      have hp := hp.2 h38
      refine g_room (k' := (322 * nf + 0)) (n' := (2566 * nf + 0)) (by omega) (by omega) ?_
      refine g_lv (lv' := [(0, .ref (gva E 200)), (1, .ref (gX E + 0)), (2, .ref (gX E + 559)), (3, .ref (gX E + 570)), (4, .ref (gX E + 571)), (5, .int x5)]) [1, 2, 3, 4, 5, 6] rfl ?_
      exact w_L_law_533 nf N xs hN hxs hd K28 PK28 hK28 x5 v hp hQ
    · have hQ := qp (P := gqIV Q) h38 hQ
      have hp := hp.1 h38
      refine g_aload_n 4 dL_law_521 rfl ?_
      refine g_iconst dL_law_522 (0 : Int32) (by decide) ?_
      refine g_lald (by decide : kd 570 = (3, 1)) (show 570 < 572 by decide) (show ¬ (_ ∨ _) by decide) dL_law_523 ?_
      refine g_iload 0 dL_law_524 rfl ?_
      refine g_i2l dL_law_526 ?_
      refine g_lcmp dL_law_527 ?_
      refine g_if_eq 533 dL_law_528 (by decide) (fun h39 => ?_) (fun h39 => ?_)
      · have hQ := qp (P := gqIV Q) h39 hQ
        have hp := hp.1 h39
        refine g_room (k' := (322 * nf + 0)) (n' := (2566 * nf + 0)) (by omega) (by omega) ?_
        refine g_lv (lv' := [(0, .ref (gva E 200)), (1, .ref (gX E + 0)), (2, .ref (gX E + 559)), (3, .ref (gX E + 570)), (4, .ref (gX E + 571)), (5, .int x5)]) [1, 2, 3, 4, 5, 6] rfl ?_
        exact w_L_law_533 nf N xs hN hxs hd K28 PK28 hK28 x5 v hp hQ
      · have hQ := qn (P := gqIV Q) h39 hQ
        have hp := hp.2 h39
        refine g_iconst dL_law_531 (0 : Int32) (by decide) ?_
        exact g_zret rfl rfl dL_law_532 hQ
  · have hQ := qn (P := gqIV Q) h37 hQ
    have hp := hp.2 h37
    refine g_iconst dL_law_514 (0 : Int32) (by decide) ?_
    exact g_zret rfl rfl dL_law_515 hQ
def f_L_law_473 (N : Nat) (xs : Nat → Int32) (K28 : Int32 → gV → Int32 × gV)  (x5 : Int32) (s0 : Int32) (v : gV) : Int32 × gV := f_L_law_503 N xs K28 x5 s0 ((f_X12_addTreaty (xs (x5 + (1 : Int32)).toNatClampNeg) (xs (x5 + (2 : Int32)).toNatClampNeg) (xs (x5 + (3 : Int32)).toNatClampNeg) (xs (x5 + (4 : Int32)).toNatClampNeg) v).1) (f_X12_addTreaty (xs (x5 + (1 : Int32)).toNatClampNeg) (xs (x5 + (2 : Int32)).toNatClampNeg) (xs (x5 + (3 : Int32)).toNatClampNeg) (xs (x5 + (4 : Int32)).toNatClampNeg) v).2
def p_L_law_473 (N : Nat) (xs : Nat → Int32) (K28 : Int32 → gV → Int32 × gV)  (PK28 : Int32 → gV → Prop)  (x5 : Int32) (s0 : Int32) (v : gV) : Prop := (vp_in (x5 + (1 : Int32)) N) ∧ ((vp_in (x5 + (2 : Int32)) N) ∧ ((vp_in (x5 + (3 : Int32)) N) ∧ ((vp_in (x5 + (4 : Int32)) N) ∧ ((p_X12_addTreaty (xs (x5 + (1 : Int32)).toNatClampNeg) (xs (x5 + (2 : Int32)).toNatClampNeg) (xs (x5 + (3 : Int32)).toNatClampNeg) (xs (x5 + (4 : Int32)).toNatClampNeg) v) ∧ (p_L_law_503 N xs K28 PK28 x5 s0 ((f_X12_addTreaty (xs (x5 + (1 : Int32)).toNatClampNeg) (xs (x5 + (2 : Int32)).toNatClampNeg) (xs (x5 + (3 : Int32)).toNatClampNeg) (xs (x5 + (4 : Int32)).toNatClampNeg) v).1) (f_X12_addTreaty (xs (x5 + (1 : Int32)).toNatClampNeg) (xs (x5 + (2 : Int32)).toNatClampNeg) (xs (x5 + (3 : Int32)).toNatClampNeg) (xs (x5 + (4 : Int32)).toNatClampNeg) v).2)))))
set_option maxHeartbeats 4000000 in
set_option maxRecDepth 100000 in
theorem w_L_law_473 {E : gE} {d : Nat} {Q : gO → gS → Prop} (nf : Nat) (N : Nat) (xs : Nat → Int32) (hN : gva E 201 = N) (hxs : gxs E = xs) (hd : 16 ≤ d) (K28 : Int32 → gV → Int32 × gV)  (PK28 : Int32 → gV → Prop)  (hK28 : ∀ (x5 : Int32) (v : gV), PK28 x5 v → gqIV Q (K28 x5 v) → gG E m_L_law d Q (322 * nf) (2566 * nf) (rS v) 28 [(0, .ref (gva E 200)), (1, .ref (gX E + 0)), (2, .ref (gX E + 559)), (3, .ref (gX E + 570)), (4, .ref (gX E + 571)), (5, .int x5)] [])  (x5 : Int32) (s0 : Int32) (v : gV) (hp : p_L_law_473 N xs K28 PK28 x5 s0 v) (hQ : gqIV Q (f_L_law_473 N xs K28 x5 s0 v)) : gG E m_L_law d Q (322 * nf + 0) (2566 * nf + 0) (rS v) 473 [(0, .ref (gva E 200)), (1, .ref (gX E + 0)), (2, .ref (gX E + 559)), (3, .ref (gX E + 570)), (4, .ref (gX E + 571)), (5, .int x5)] [.int s0] := by
  refine g_istore [(6, .int s0), (0, .ref (gva E 200)), (1, .ref (gX E + 0)), (2, .ref (gX E + 559)), (3, .ref (gX E + 570)), (4, .ref (gX E + 571)), (5, .int x5)] dL_law_473 (by decide) rfl ?_
  refine g_aload_n 3 dL_law_475 rfl ?_
  refine g_aload_n 1 dL_law_476 rfl ?_
  refine g_iload 6 dL_law_477 rfl ?_
  refine g_iconst dL_law_479 (1 : Int32) (by decide) ?_
  refine g_iadd dL_law_480 ?_
  obtain ⟨h31, hp⟩ := hp
  refine g_sld hN hxs h31 dL_law_481 ?_
  refine g_aload_n 1 dL_law_482 rfl ?_
  refine g_iload 6 dL_law_483 rfl ?_
  refine g_iconst dL_law_485 (2 : Int32) (by decide) ?_
  refine g_iadd dL_law_486 ?_
  obtain ⟨h32, hp⟩ := hp
  refine g_sld hN hxs h32 dL_law_487 ?_
  refine g_aload_n 1 dL_law_488 rfl ?_
  refine g_iload 6 dL_law_489 rfl ?_
  refine g_iconst dL_law_491 (3 : Int32) (by decide) ?_
  refine g_iadd dL_law_492 ?_
  obtain ⟨h33, hp⟩ := hp
  refine g_sld hN hxs h33 dL_law_493 ?_
  refine g_aload_n 1 dL_law_494 rfl ?_
  refine g_iload 6 dL_law_495 rfl ?_
  refine g_iconst dL_law_497 (4 : Int32) (by decide) ?_
  refine g_iadd dL_law_498 ?_
  obtain ⟨h34, hp⟩ := hp
  refine g_sld hN hxs h34 dL_law_499 ?_
  obtain ⟨h35, hp⟩ := hp
  refine g_callV (rest := []) s_L_203_X12 rfl (c_X12_addTreaty (E := E) (d := d - 1)   (by omega) (xs (x5 + (1 : Int32)).toNatClampNeg) (xs (x5 + (2 : Int32)).toNatClampNeg) (xs (x5 + (3 : Int32)).toNatClampNeg) (xs (x5 + (4 : Int32)).toNatClampNeg) v h35) (by decide : kd 559 = (0, 9)) (show 559 < 572 by decide) rfl rfl (Nat.le_of_ble_eq_true rfl) (by omega) (by omega) (by omega) dL_law_500 (adV ?_) axN
  refine g_room (k' := (322 * nf + 0)) (n' := (2566 * nf + 0)) (by omega) (by omega) ?_
  refine g_lv (lv' := [(0, .ref (gva E 200)), (1, .ref (gX E + 0)), (2, .ref (gX E + 559)), (3, .ref (gX E + 570)), (4, .ref (gX E + 571)), (5, .int x5), (6, .int s0)]) [1, 2, 3, 4, 5, 6, 0] rfl ?_
  exact w_L_law_503 nf N xs hN hxs hd K28 PK28 hK28 x5 s0 ((f_X12_addTreaty (xs (x5 + (1 : Int32)).toNatClampNeg) (xs (x5 + (2 : Int32)).toNatClampNeg) (xs (x5 + (3 : Int32)).toNatClampNeg) (xs (x5 + (4 : Int32)).toNatClampNeg) v).1) (f_X12_addTreaty (xs (x5 + (1 : Int32)).toNatClampNeg) (xs (x5 + (2 : Int32)).toNatClampNeg) (xs (x5 + (3 : Int32)).toNatClampNeg) (xs (x5 + (4 : Int32)).toNatClampNeg) v).2 hp hQ
def f_L_law_444 (N : Nat) (xs : Nat → Int32) (K28 : Int32 → gV → Int32 × gV)  (x5 : Int32) (v : gV) : Int32 × gV := f_L_law_473 N xs K28 x5 ((f_L_addTreaty (xs (x5 + (1 : Int32)).toNatClampNeg) (xs (x5 + (2 : Int32)).toNatClampNeg) (xs (x5 + (3 : Int32)).toNatClampNeg) (xs (x5 + (4 : Int32)).toNatClampNeg) v).1) (f_L_addTreaty (xs (x5 + (1 : Int32)).toNatClampNeg) (xs (x5 + (2 : Int32)).toNatClampNeg) (xs (x5 + (3 : Int32)).toNatClampNeg) (xs (x5 + (4 : Int32)).toNatClampNeg) v).2
def p_L_law_444 (N : Nat) (xs : Nat → Int32) (K28 : Int32 → gV → Int32 × gV)  (PK28 : Int32 → gV → Prop)  (x5 : Int32) (v : gV) : Prop := (vp_in (x5 + (1 : Int32)) N) ∧ ((vp_in (x5 + (2 : Int32)) N) ∧ ((vp_in (x5 + (3 : Int32)) N) ∧ ((vp_in (x5 + (4 : Int32)) N) ∧ ((p_L_addTreaty (xs (x5 + (1 : Int32)).toNatClampNeg) (xs (x5 + (2 : Int32)).toNatClampNeg) (xs (x5 + (3 : Int32)).toNatClampNeg) (xs (x5 + (4 : Int32)).toNatClampNeg) v) ∧ (p_L_law_473 N xs K28 PK28 x5 ((f_L_addTreaty (xs (x5 + (1 : Int32)).toNatClampNeg) (xs (x5 + (2 : Int32)).toNatClampNeg) (xs (x5 + (3 : Int32)).toNatClampNeg) (xs (x5 + (4 : Int32)).toNatClampNeg) v).1) (f_L_addTreaty (xs (x5 + (1 : Int32)).toNatClampNeg) (xs (x5 + (2 : Int32)).toNatClampNeg) (xs (x5 + (3 : Int32)).toNatClampNeg) (xs (x5 + (4 : Int32)).toNatClampNeg) v).2)))))
set_option maxHeartbeats 4000000 in
set_option maxRecDepth 100000 in
theorem w_L_law_444 {E : gE} {d : Nat} {Q : gO → gS → Prop} (nf : Nat) (N : Nat) (xs : Nat → Int32) (hN : gva E 201 = N) (hxs : gxs E = xs) (hd : 16 ≤ d) (K28 : Int32 → gV → Int32 × gV)  (PK28 : Int32 → gV → Prop)  (hK28 : ∀ (x5 : Int32) (v : gV), PK28 x5 v → gqIV Q (K28 x5 v) → gG E m_L_law d Q (322 * nf) (2566 * nf) (rS v) 28 [(0, .ref (gva E 200)), (1, .ref (gX E + 0)), (2, .ref (gX E + 559)), (3, .ref (gX E + 570)), (4, .ref (gX E + 571)), (5, .int x5)] [])  (x5 : Int32) (v : gV) (hp : p_L_law_444 N xs K28 PK28 x5 v) (hQ : gqIV Q (f_L_law_444 N xs K28 x5 v)) : gG E m_L_law d Q (322 * nf + 5) (2566 * nf + 30) (rS v) 444 [(0, .ref (gva E 200)), (1, .ref (gX E + 0)), (2, .ref (gX E + 559)), (3, .ref (gX E + 570)), (4, .ref (gX E + 571)), (5, .int x5)] [] := by
  refine g_aload_n 1 dL_law_444 rfl ?_
  refine g_aload_n 0 dL_law_445 rfl ?_
  refine g_iload 5 dL_law_446 rfl ?_
  refine g_iconst dL_law_448 (1 : Int32) (by decide) ?_
  refine g_iadd dL_law_449 ?_
  obtain ⟨h26, hp⟩ := hp
  refine g_sld hN hxs h26 dL_law_450 ?_
  refine g_aload_n 0 dL_law_451 rfl ?_
  refine g_iload 5 dL_law_452 rfl ?_
  refine g_iconst dL_law_454 (2 : Int32) (by decide) ?_
  refine g_iadd dL_law_455 ?_
  obtain ⟨h27, hp⟩ := hp
  refine g_sld hN hxs h27 dL_law_456 ?_
  refine g_aload_n 0 dL_law_457 rfl ?_
  refine g_iload 5 dL_law_458 rfl ?_
  refine g_iconst dL_law_460 (3 : Int32) (by decide) ?_
  refine g_iadd dL_law_461 ?_
  obtain ⟨h28, hp⟩ := hp
  refine g_sld hN hxs h28 dL_law_462 ?_
  refine g_aload_n 0 dL_law_463 rfl ?_
  refine g_iload 5 dL_law_464 rfl ?_
  refine g_iconst dL_law_466 (4 : Int32) (by decide) ?_
  refine g_iadd dL_law_467 ?_
  obtain ⟨h29, hp⟩ := hp
  refine g_sld hN hxs h29 dL_law_468 ?_
  refine g_aload_n 3 dL_law_469 rfl ?_
  obtain ⟨h30, hp⟩ := hp
  refine g_callT (rest := []) s_L_200 rfl (c_L_addTreaty (E := E) (d := d - 1)   (by omega) (xs (x5 + (1 : Int32)).toNatClampNeg) (xs (x5 + (2 : Int32)).toNatClampNeg) (xs (x5 + (3 : Int32)).toNatClampNeg) (xs (x5 + (4 : Int32)).toNatClampNeg) v h30) cqn rfl rfl (Nat.le_of_ble_eq_true rfl) (by omega) (by omega) (by omega) dL_law_470 (adV ?_)
  refine g_room (k' := (322 * nf + 0)) (n' := (2566 * nf + 0)) (by omega) (by omega) ?_
  exact w_L_law_473 nf N xs hN hxs hd K28 PK28 hK28 x5 ((f_L_addTreaty (xs (x5 + (1 : Int32)).toNatClampNeg) (xs (x5 + (2 : Int32)).toNatClampNeg) (xs (x5 + (3 : Int32)).toNatClampNeg) (xs (x5 + (4 : Int32)).toNatClampNeg) v).1) (f_L_addTreaty (xs (x5 + (1 : Int32)).toNatClampNeg) (xs (x5 + (2 : Int32)).toNatClampNeg) (xs (x5 + (3 : Int32)).toNatClampNeg) (xs (x5 + (4 : Int32)).toNatClampNeg) v).2 hp hQ
def f_L_law_589 (N : Nat) (xs : Nat → Int32) (K28 : Int32 → gV → Int32 × gV)  (x5 : Int32) (v : gV) : Int32 × gV := f_L_law_3401 N xs K28 x5 v
def p_L_law_589 (N : Nat) (xs : Nat → Int32) (K28 : Int32 → gV → Int32 × gV)  (PK28 : Int32 → gV → Prop)  (x5 : Int32) (v : gV) : Prop := p_L_law_3401 N xs K28 PK28 x5 v
set_option maxHeartbeats 4000000 in
set_option maxRecDepth 100000 in
theorem w_L_law_589 {E : gE} {d : Nat} {Q : gO → gS → Prop} (nf : Nat) (N : Nat) (xs : Nat → Int32) (hN : gva E 201 = N) (hxs : gxs E = xs) (hd : 16 ≤ d) (K28 : Int32 → gV → Int32 × gV)  (PK28 : Int32 → gV → Prop)  (hK28 : ∀ (x5 : Int32) (v : gV), PK28 x5 v → gqIV Q (K28 x5 v) → gG E m_L_law d Q (322 * nf) (2566 * nf) (rS v) 28 [(0, .ref (gva E 200)), (1, .ref (gX E + 0)), (2, .ref (gX E + 559)), (3, .ref (gX E + 570)), (4, .ref (gX E + 571)), (5, .int x5)] [])  (x5 : Int32) (v : gV) (hp : p_L_law_589 N xs K28 PK28 x5 v) (hQ : gqIV Q (f_L_law_589 N xs K28 x5 v)) : gG E m_L_law d Q (322 * nf + 0) (2566 * nf + 0) (rS v) 589 [(0, .ref (gva E 200)), (1, .ref (gX E + 0)), (2, .ref (gX E + 559)), (3, .ref (gX E + 570)), (4, .ref (gX E + 571)), (5, .int x5)] [] := by
  refine g_goto 3401 dL_law_589 (by decide) ?_
  refine g_room (k' := (322 * nf + 0)) (n' := (2566 * nf + 0)) (by omega) (by omega) ?_
  exact w_L_law_3401 nf N xs hN hxs hd K28 PK28 hK28 x5 v hp hQ
def f_L_law_559 (N : Nat) (xs : Nat → Int32) (K28 : Int32 → gV → Int32 × gV)  (x5 : Int32) (x6 : Int32) (s0 : Int32) (v : gV) : Int32 × gV := if (f_X12_thrown  v) = x6 then (if x6 = 0 then (if (lg_cmp (v.2.1 570 (0 : Int32).toNatClampNeg) s0.toInt64) = 0 then (f_L_law_589 N xs K28 x5 v) else (((0 : Int32), v))) else (f_L_law_589 N xs K28 x5 v)) else (((0 : Int32), v))
def p_L_law_559 (N : Nat) (xs : Nat → Int32) (K28 : Int32 → gV → Int32 × gV)  (PK28 : Int32 → gV → Prop)  (x5 : Int32) (x6 : Int32) (s0 : Int32) (v : gV) : Prop := (p_X12_thrown  v) ∧ ((((f_X12_thrown  v) = x6) → (((x6 = 0) → ((((lg_cmp (v.2.1 570 (0 : Int32).toNatClampNeg) s0.toInt64) = 0) → (p_L_law_589 N xs K28 PK28 x5 v)) ∧ (¬ ((lg_cmp (v.2.1 570 (0 : Int32).toNatClampNeg) s0.toInt64) = 0) → (True)))) ∧ (¬ (x6 = 0) → (p_L_law_589 N xs K28 PK28 x5 v)))) ∧ (¬ ((f_X12_thrown  v) = x6) → (True)))
set_option maxHeartbeats 4000000 in
set_option maxRecDepth 100000 in
theorem w_L_law_559 {E : gE} {d : Nat} {Q : gO → gS → Prop} (nf : Nat) (N : Nat) (xs : Nat → Int32) (hN : gva E 201 = N) (hxs : gxs E = xs) (hd : 16 ≤ d) (K28 : Int32 → gV → Int32 × gV)  (PK28 : Int32 → gV → Prop)  (hK28 : ∀ (x5 : Int32) (v : gV), PK28 x5 v → gqIV Q (K28 x5 v) → gG E m_L_law d Q (322 * nf) (2566 * nf) (rS v) 28 [(0, .ref (gva E 200)), (1, .ref (gX E + 0)), (2, .ref (gX E + 559)), (3, .ref (gX E + 570)), (4, .ref (gX E + 571)), (5, .int x5)] [])  (x5 : Int32) (x6 : Int32) (s0 : Int32) (v : gV) (hp : p_L_law_559 N xs K28 PK28 x5 x6 s0 v) (hQ : gqIV Q (f_L_law_559 N xs K28 x5 x6 s0 v)) : gG E m_L_law d Q (322 * nf + 0) (2566 * nf + 0) (rS v) 559 [(0, .ref (gva E 200)), (1, .ref (gX E + 0)), (2, .ref (gX E + 559)), (3, .ref (gX E + 570)), (4, .ref (gX E + 571)), (5, .int x5), (6, .int x6)] [.int s0] := by
  refine g_istore [(7, .int s0), (0, .ref (gva E 200)), (1, .ref (gX E + 0)), (2, .ref (gX E + 559)), (3, .ref (gX E + 570)), (4, .ref (gX E + 571)), (5, .int x5), (6, .int x6)] dL_law_559 (by decide) rfl ?_
  refine g_aload_n 3 dL_law_561 rfl ?_
  obtain ⟨h45, hp⟩ := hp
  refine g_callV (rest := []) s_L_193_X12 rfl (c_X12_thrown (E := E) (d := d - 1)   (by omega)  v h45) (by decide : kd 559 = (0, 9)) (show 559 < 572 by decide) rfl rfl (Nat.le_of_ble_eq_true rfl) (by omega) (by omega) (by omega) dL_law_562 (adV ?_) axN
  refine g_iload 7 dL_law_565 rfl ?_
  refine g_icmp_eq 572 dL_law_567 (by decide) (fun h46 => ?_) (fun h46 => ?_)
  · have hQ := qp (P := gqIV Q) h46 hQ
    have hp := hp.1 h46
    refine g_iload 7 dL_law_572 rfl ?_
    refine g_if_ne 589 dL_law_574 (by decide) (fun h47 => ?_) (fun h47 => ?_)
    · have hQ := qn (P := gqIV Q) h47 hQ
      have hp := hp.2 h47
      refine g_room (k' := (322 * nf + 0)) (n' := (2566 * nf + 0)) (by omega) (by omega) ?_
      refine g_lv (lv' := [(0, .ref (gva E 200)), (1, .ref (gX E + 0)), (2, .ref (gX E + 559)), (3, .ref (gX E + 570)), (4, .ref (gX E + 571)), (5, .int x5)]) [1, 2, 3, 4, 5, 6] rfl ?_
      exact w_L_law_589 nf N xs hN hxs hd K28 PK28 hK28 x5 v hp hQ
    · have hQ := qp (P := gqIV Q) h47 hQ
      have hp := hp.1 h47
      refine g_aload_n 4 dL_law_577 rfl ?_
      refine g_iconst dL_law_578 (0 : Int32) (by decide) ?_
      refine g_lald (by decide : kd 570 = (3, 1)) (show 570 < 572 by decide) (show ¬ (_ ∨ _) by decide) dL_law_579 ?_
      refine g_iload 0 dL_law_580 rfl ?_
      refine g_i2l dL_law_582 ?_
      refine g_lcmp dL_law_583 ?_
      refine g_if_eq 589 dL_law_584 (by decide) (fun h48 => ?_) (fun h48 => ?_)
      · have hQ := qp (P := gqIV Q) h48 hQ
        have hp := hp.1 h48
        refine g_room (k' := (322 * nf + 0)) (n' := (2566 * nf + 0)) (by omega) (by omega) ?_
        refine g_lv (lv' := [(0, .ref (gva E 200)), (1, .ref (gX E + 0)), (2, .ref (gX E + 559)), (3, .ref (gX E + 570)), (4, .ref (gX E + 571)), (5, .int x5)]) [1, 2, 3, 4, 5, 6] rfl ?_
        exact w_L_law_589 nf N xs hN hxs hd K28 PK28 hK28 x5 v hp hQ
      · have hQ := qn (P := gqIV Q) h48 hQ
        have hp := hp.2 h48
        refine g_iconst dL_law_587 (0 : Int32) (by decide) ?_
        exact g_zret rfl rfl dL_law_588 hQ
  · have hQ := qn (P := gqIV Q) h46 hQ
    have hp := hp.2 h46
    refine g_iconst dL_law_570 (0 : Int32) (by decide) ?_
    exact g_zret rfl rfl dL_law_571 hQ
def f_L_law_547 (N : Nat) (xs : Nat → Int32) (K28 : Int32 → gV → Int32 × gV)  (x5 : Int32) (s0 : Int32) (v : gV) : Int32 × gV := f_L_law_559 N xs K28 x5 s0 ((f_X12_dropTreaty (xs (x5 + (1 : Int32)).toNatClampNeg) v).1) (f_X12_dropTreaty (xs (x5 + (1 : Int32)).toNatClampNeg) v).2
def p_L_law_547 (N : Nat) (xs : Nat → Int32) (K28 : Int32 → gV → Int32 × gV)  (PK28 : Int32 → gV → Prop)  (x5 : Int32) (s0 : Int32) (v : gV) : Prop := (vp_in (x5 + (1 : Int32)) N) ∧ ((p_X12_dropTreaty (xs (x5 + (1 : Int32)).toNatClampNeg) v) ∧ (p_L_law_559 N xs K28 PK28 x5 s0 ((f_X12_dropTreaty (xs (x5 + (1 : Int32)).toNatClampNeg) v).1) (f_X12_dropTreaty (xs (x5 + (1 : Int32)).toNatClampNeg) v).2))
set_option maxHeartbeats 4000000 in
set_option maxRecDepth 100000 in
theorem w_L_law_547 {E : gE} {d : Nat} {Q : gO → gS → Prop} (nf : Nat) (N : Nat) (xs : Nat → Int32) (hN : gva E 201 = N) (hxs : gxs E = xs) (hd : 16 ≤ d) (K28 : Int32 → gV → Int32 × gV)  (PK28 : Int32 → gV → Prop)  (hK28 : ∀ (x5 : Int32) (v : gV), PK28 x5 v → gqIV Q (K28 x5 v) → gG E m_L_law d Q (322 * nf) (2566 * nf) (rS v) 28 [(0, .ref (gva E 200)), (1, .ref (gX E + 0)), (2, .ref (gX E + 559)), (3, .ref (gX E + 570)), (4, .ref (gX E + 571)), (5, .int x5)] [])  (x5 : Int32) (s0 : Int32) (v : gV) (hp : p_L_law_547 N xs K28 PK28 x5 s0 v) (hQ : gqIV Q (f_L_law_547 N xs K28 x5 s0 v)) : gG E m_L_law d Q (322 * nf + 0) (2566 * nf + 0) (rS v) 547 [(0, .ref (gva E 200)), (1, .ref (gX E + 0)), (2, .ref (gX E + 559)), (3, .ref (gX E + 570)), (4, .ref (gX E + 571)), (5, .int x5)] [.int s0] := by
  refine g_istore [(6, .int s0), (0, .ref (gva E 200)), (1, .ref (gX E + 0)), (2, .ref (gX E + 559)), (3, .ref (gX E + 570)), (4, .ref (gX E + 571)), (5, .int x5)] dL_law_547 (by decide) rfl ?_
  refine g_aload_n 3 dL_law_549 rfl ?_
  refine g_aload_n 1 dL_law_550 rfl ?_
  refine g_iload 6 dL_law_551 rfl ?_
  refine g_iconst dL_law_553 (1 : Int32) (by decide) ?_
  refine g_iadd dL_law_554 ?_
  obtain ⟨h43, hp⟩ := hp
  refine g_sld hN hxs h43 dL_law_555 ?_
  obtain ⟨h44, hp⟩ := hp
  refine g_callV (rest := []) s_L_206_X12 rfl (c_X12_dropTreaty (E := E) (d := d - 1)   (by omega) (xs (x5 + (1 : Int32)).toNatClampNeg) v h44) (by decide : kd 559 = (0, 9)) (show 559 < 572 by decide) rfl rfl (Nat.le_of_ble_eq_true rfl) (by omega) (by omega) (by omega) dL_law_556 (adV ?_) axN
  refine g_room (k' := (322 * nf + 0)) (n' := (2566 * nf + 0)) (by omega) (by omega) ?_
  refine g_lv (lv' := [(0, .ref (gva E 200)), (1, .ref (gX E + 0)), (2, .ref (gX E + 559)), (3, .ref (gX E + 570)), (4, .ref (gX E + 571)), (5, .int x5), (6, .int s0)]) [1, 2, 3, 4, 5, 6, 0] rfl ?_
  exact w_L_law_559 nf N xs hN hxs hd K28 PK28 hK28 x5 s0 ((f_X12_dropTreaty (xs (x5 + (1 : Int32)).toNatClampNeg) v).1) (f_X12_dropTreaty (xs (x5 + (1 : Int32)).toNatClampNeg) v).2 hp hQ
def f_L_law_536 (N : Nat) (xs : Nat → Int32) (K28 : Int32 → gV → Int32 × gV)  (x5 : Int32) (v : gV) : Int32 × gV := f_L_law_547 N xs K28 x5 ((f_L_dropTreaty (xs (x5 + (1 : Int32)).toNatClampNeg) v).1) (f_L_dropTreaty (xs (x5 + (1 : Int32)).toNatClampNeg) v).2
def p_L_law_536 (N : Nat) (xs : Nat → Int32) (K28 : Int32 → gV → Int32 × gV)  (PK28 : Int32 → gV → Prop)  (x5 : Int32) (v : gV) : Prop := (vp_in (x5 + (1 : Int32)) N) ∧ ((p_L_dropTreaty (xs (x5 + (1 : Int32)).toNatClampNeg) v) ∧ (p_L_law_547 N xs K28 PK28 x5 ((f_L_dropTreaty (xs (x5 + (1 : Int32)).toNatClampNeg) v).1) (f_L_dropTreaty (xs (x5 + (1 : Int32)).toNatClampNeg) v).2))
set_option maxHeartbeats 4000000 in
set_option maxRecDepth 100000 in
theorem w_L_law_536 {E : gE} {d : Nat} {Q : gO → gS → Prop} (nf : Nat) (N : Nat) (xs : Nat → Int32) (hN : gva E 201 = N) (hxs : gxs E = xs) (hd : 16 ≤ d) (K28 : Int32 → gV → Int32 × gV)  (PK28 : Int32 → gV → Prop)  (hK28 : ∀ (x5 : Int32) (v : gV), PK28 x5 v → gqIV Q (K28 x5 v) → gG E m_L_law d Q (322 * nf) (2566 * nf) (rS v) 28 [(0, .ref (gva E 200)), (1, .ref (gX E + 0)), (2, .ref (gX E + 559)), (3, .ref (gX E + 570)), (4, .ref (gX E + 571)), (5, .int x5)] [])  (x5 : Int32) (v : gV) (hp : p_L_law_536 N xs K28 PK28 x5 v) (hQ : gqIV Q (f_L_law_536 N xs K28 x5 v)) : gG E m_L_law d Q (322 * nf + 2) (2566 * nf + 12) (rS v) 536 [(0, .ref (gva E 200)), (1, .ref (gX E + 0)), (2, .ref (gX E + 559)), (3, .ref (gX E + 570)), (4, .ref (gX E + 571)), (5, .int x5)] [] := by
  refine g_aload_n 1 dL_law_536 rfl ?_
  refine g_aload_n 0 dL_law_537 rfl ?_
  refine g_iload 5 dL_law_538 rfl ?_
  refine g_iconst dL_law_540 (1 : Int32) (by decide) ?_
  refine g_iadd dL_law_541 ?_
  obtain ⟨h41, hp⟩ := hp
  refine g_sld hN hxs h41 dL_law_542 ?_
  refine g_aload_n 3 dL_law_543 rfl ?_
  obtain ⟨h42, hp⟩ := hp
  refine g_callT (rest := []) s_L_204 rfl (c_L_dropTreaty (E := E) (d := d - 1)   (by omega) (xs (x5 + (1 : Int32)).toNatClampNeg) v h42) cqn rfl rfl (Nat.le_of_ble_eq_true rfl) (by omega) (by omega) (by omega) dL_law_544 (adV ?_)
  refine g_room (k' := (322 * nf + 0)) (n' := (2566 * nf + 0)) (by omega) (by omega) ?_
  exact w_L_law_547 nf N xs hN hxs hd K28 PK28 hK28 x5 ((f_L_dropTreaty (xs (x5 + (1 : Int32)).toNatClampNeg) v).1) (f_L_dropTreaty (xs (x5 + (1 : Int32)).toNatClampNeg) v).2 hp hQ
def f_L_law_671 (N : Nat) (xs : Nat → Int32) (K28 : Int32 → gV → Int32 × gV)  (x5 : Int32) (v : gV) : Int32 × gV := f_L_law_3401 N xs K28 x5 v
def p_L_law_671 (N : Nat) (xs : Nat → Int32) (K28 : Int32 → gV → Int32 × gV)  (PK28 : Int32 → gV → Prop)  (x5 : Int32) (v : gV) : Prop := p_L_law_3401 N xs K28 PK28 x5 v
set_option maxHeartbeats 4000000 in
set_option maxRecDepth 100000 in
theorem w_L_law_671 {E : gE} {d : Nat} {Q : gO → gS → Prop} (nf : Nat) (N : Nat) (xs : Nat → Int32) (hN : gva E 201 = N) (hxs : gxs E = xs) (hd : 16 ≤ d) (K28 : Int32 → gV → Int32 × gV)  (PK28 : Int32 → gV → Prop)  (hK28 : ∀ (x5 : Int32) (v : gV), PK28 x5 v → gqIV Q (K28 x5 v) → gG E m_L_law d Q (322 * nf) (2566 * nf) (rS v) 28 [(0, .ref (gva E 200)), (1, .ref (gX E + 0)), (2, .ref (gX E + 559)), (3, .ref (gX E + 570)), (4, .ref (gX E + 571)), (5, .int x5)] [])  (x5 : Int32) (v : gV) (hp : p_L_law_671 N xs K28 PK28 x5 v) (hQ : gqIV Q (f_L_law_671 N xs K28 x5 v)) : gG E m_L_law d Q (322 * nf + 0) (2566 * nf + 0) (rS v) 671 [(0, .ref (gva E 200)), (1, .ref (gX E + 0)), (2, .ref (gX E + 559)), (3, .ref (gX E + 570)), (4, .ref (gX E + 571)), (5, .int x5)] [] := by
  refine g_goto 3401 dL_law_671 (by decide) ?_
  refine g_room (k' := (322 * nf + 0)) (n' := (2566 * nf + 0)) (by omega) (by omega) ?_
  exact w_L_law_3401 nf N xs hN hxs hd K28 PK28 hK28 x5 v hp hQ
def f_L_law_641 (N : Nat) (xs : Nat → Int32) (K28 : Int32 → gV → Int32 × gV)  (x5 : Int32) (x6 : Int32) (s0 : Int32) (v : gV) : Int32 × gV := if (f_X12_thrown  v) = x6 then (if x6 = 0 then (if (lg_cmp (v.2.1 570 (0 : Int32).toNatClampNeg) s0.toInt64) = 0 then (f_L_law_671 N xs K28 x5 v) else (((0 : Int32), v))) else (f_L_law_671 N xs K28 x5 v)) else (((0 : Int32), v))
def p_L_law_641 (N : Nat) (xs : Nat → Int32) (K28 : Int32 → gV → Int32 × gV)  (PK28 : Int32 → gV → Prop)  (x5 : Int32) (x6 : Int32) (s0 : Int32) (v : gV) : Prop := (p_X12_thrown  v) ∧ ((((f_X12_thrown  v) = x6) → (((x6 = 0) → ((((lg_cmp (v.2.1 570 (0 : Int32).toNatClampNeg) s0.toInt64) = 0) → (p_L_law_671 N xs K28 PK28 x5 v)) ∧ (¬ ((lg_cmp (v.2.1 570 (0 : Int32).toNatClampNeg) s0.toInt64) = 0) → (True)))) ∧ (¬ (x6 = 0) → (p_L_law_671 N xs K28 PK28 x5 v)))) ∧ (¬ ((f_X12_thrown  v) = x6) → (True)))
set_option maxHeartbeats 4000000 in
set_option maxRecDepth 100000 in
theorem w_L_law_641 {E : gE} {d : Nat} {Q : gO → gS → Prop} (nf : Nat) (N : Nat) (xs : Nat → Int32) (hN : gva E 201 = N) (hxs : gxs E = xs) (hd : 16 ≤ d) (K28 : Int32 → gV → Int32 × gV)  (PK28 : Int32 → gV → Prop)  (hK28 : ∀ (x5 : Int32) (v : gV), PK28 x5 v → gqIV Q (K28 x5 v) → gG E m_L_law d Q (322 * nf) (2566 * nf) (rS v) 28 [(0, .ref (gva E 200)), (1, .ref (gX E + 0)), (2, .ref (gX E + 559)), (3, .ref (gX E + 570)), (4, .ref (gX E + 571)), (5, .int x5)] [])  (x5 : Int32) (x6 : Int32) (s0 : Int32) (v : gV) (hp : p_L_law_641 N xs K28 PK28 x5 x6 s0 v) (hQ : gqIV Q (f_L_law_641 N xs K28 x5 x6 s0 v)) : gG E m_L_law d Q (322 * nf + 0) (2566 * nf + 0) (rS v) 641 [(0, .ref (gva E 200)), (1, .ref (gX E + 0)), (2, .ref (gX E + 559)), (3, .ref (gX E + 570)), (4, .ref (gX E + 571)), (5, .int x5), (6, .int x6)] [.int s0] := by
  refine g_istore [(7, .int s0), (0, .ref (gva E 200)), (1, .ref (gX E + 0)), (2, .ref (gX E + 559)), (3, .ref (gX E + 570)), (4, .ref (gX E + 571)), (5, .int x5), (6, .int x6)] dL_law_641 (by decide) rfl ?_
  refine g_aload_n 3 dL_law_643 rfl ?_
  obtain ⟨h58, hp⟩ := hp
  refine g_callV (rest := []) s_L_193_X12 rfl (c_X12_thrown (E := E) (d := d - 1)   (by omega)  v h58) (by decide : kd 559 = (0, 9)) (show 559 < 572 by decide) rfl rfl (Nat.le_of_ble_eq_true rfl) (by omega) (by omega) (by omega) dL_law_644 (adV ?_) axN
  refine g_iload 7 dL_law_647 rfl ?_
  refine g_icmp_eq 654 dL_law_649 (by decide) (fun h59 => ?_) (fun h59 => ?_)
  · have hQ := qp (P := gqIV Q) h59 hQ
    have hp := hp.1 h59
    refine g_iload 7 dL_law_654 rfl ?_
    refine g_if_ne 671 dL_law_656 (by decide) (fun h60 => ?_) (fun h60 => ?_)
    · have hQ := qn (P := gqIV Q) h60 hQ
      have hp := hp.2 h60
      refine g_room (k' := (322 * nf + 0)) (n' := (2566 * nf + 0)) (by omega) (by omega) ?_
      refine g_lv (lv' := [(0, .ref (gva E 200)), (1, .ref (gX E + 0)), (2, .ref (gX E + 559)), (3, .ref (gX E + 570)), (4, .ref (gX E + 571)), (5, .int x5)]) [1, 2, 3, 4, 5, 6] rfl ?_
      exact w_L_law_671 nf N xs hN hxs hd K28 PK28 hK28 x5 v hp hQ
    · have hQ := qp (P := gqIV Q) h60 hQ
      have hp := hp.1 h60
      refine g_aload_n 4 dL_law_659 rfl ?_
      refine g_iconst dL_law_660 (0 : Int32) (by decide) ?_
      refine g_lald (by decide : kd 570 = (3, 1)) (show 570 < 572 by decide) (show ¬ (_ ∨ _) by decide) dL_law_661 ?_
      refine g_iload 0 dL_law_662 rfl ?_
      refine g_i2l dL_law_664 ?_
      refine g_lcmp dL_law_665 ?_
      refine g_if_eq 671 dL_law_666 (by decide) (fun h61 => ?_) (fun h61 => ?_)
      · have hQ := qp (P := gqIV Q) h61 hQ
        have hp := hp.1 h61
        refine g_room (k' := (322 * nf + 0)) (n' := (2566 * nf + 0)) (by omega) (by omega) ?_
        refine g_lv (lv' := [(0, .ref (gva E 200)), (1, .ref (gX E + 0)), (2, .ref (gX E + 559)), (3, .ref (gX E + 570)), (4, .ref (gX E + 571)), (5, .int x5)]) [1, 2, 3, 4, 5, 6] rfl ?_
        exact w_L_law_671 nf N xs hN hxs hd K28 PK28 hK28 x5 v hp hQ
      · have hQ := qn (P := gqIV Q) h61 hQ
        have hp := hp.2 h61
        refine g_iconst dL_law_669 (0 : Int32) (by decide) ?_
        exact g_zret rfl rfl dL_law_670 hQ
  · have hQ := qn (P := gqIV Q) h59 hQ
    have hp := hp.2 h59
    refine g_iconst dL_law_652 (0 : Int32) (by decide) ?_
    exact g_zret rfl rfl dL_law_653 hQ
def f_L_law_616 (N : Nat) (xs : Nat → Int32) (K28 : Int32 → gV → Int32 × gV)  (x5 : Int32) (s0 : Int32) (v : gV) : Int32 × gV := f_L_law_641 N xs K28 x5 s0 ((f_X12_claim_ (xs (x5 + (1 : Int32)).toNatClampNeg) (((xs (x5 + (2 : Int32)).toNatClampNeg).toUInt32 % 65536).toInt32) (xs (x5 + (3 : Int32)).toNatClampNeg) v).1) (f_X12_claim_ (xs (x5 + (1 : Int32)).toNatClampNeg) (((xs (x5 + (2 : Int32)).toNatClampNeg).toUInt32 % 65536).toInt32) (xs (x5 + (3 : Int32)).toNatClampNeg) v).2
def p_L_law_616 (N : Nat) (xs : Nat → Int32) (K28 : Int32 → gV → Int32 × gV)  (PK28 : Int32 → gV → Prop)  (x5 : Int32) (s0 : Int32) (v : gV) : Prop := (vp_in (x5 + (1 : Int32)) N) ∧ ((vp_in (x5 + (2 : Int32)) N) ∧ ((vp_in (x5 + (3 : Int32)) N) ∧ ((p_X12_claim_ (xs (x5 + (1 : Int32)).toNatClampNeg) (((xs (x5 + (2 : Int32)).toNatClampNeg).toUInt32 % 65536).toInt32) (xs (x5 + (3 : Int32)).toNatClampNeg) v) ∧ (p_L_law_641 N xs K28 PK28 x5 s0 ((f_X12_claim_ (xs (x5 + (1 : Int32)).toNatClampNeg) (((xs (x5 + (2 : Int32)).toNatClampNeg).toUInt32 % 65536).toInt32) (xs (x5 + (3 : Int32)).toNatClampNeg) v).1) (f_X12_claim_ (xs (x5 + (1 : Int32)).toNatClampNeg) (((xs (x5 + (2 : Int32)).toNatClampNeg).toUInt32 % 65536).toInt32) (xs (x5 + (3 : Int32)).toNatClampNeg) v).2))))
set_option maxHeartbeats 4000000 in
set_option maxRecDepth 100000 in
theorem w_L_law_616 {E : gE} {d : Nat} {Q : gO → gS → Prop} (nf : Nat) (N : Nat) (xs : Nat → Int32) (hN : gva E 201 = N) (hxs : gxs E = xs) (hd : 16 ≤ d) (K28 : Int32 → gV → Int32 × gV)  (PK28 : Int32 → gV → Prop)  (hK28 : ∀ (x5 : Int32) (v : gV), PK28 x5 v → gqIV Q (K28 x5 v) → gG E m_L_law d Q (322 * nf) (2566 * nf) (rS v) 28 [(0, .ref (gva E 200)), (1, .ref (gX E + 0)), (2, .ref (gX E + 559)), (3, .ref (gX E + 570)), (4, .ref (gX E + 571)), (5, .int x5)] [])  (x5 : Int32) (s0 : Int32) (v : gV) (hp : p_L_law_616 N xs K28 PK28 x5 s0 v) (hQ : gqIV Q (f_L_law_616 N xs K28 x5 s0 v)) : gG E m_L_law d Q (322 * nf + 0) (2566 * nf + 0) (rS v) 616 [(0, .ref (gva E 200)), (1, .ref (gX E + 0)), (2, .ref (gX E + 559)), (3, .ref (gX E + 570)), (4, .ref (gX E + 571)), (5, .int x5)] [.int s0] := by
  refine g_istore [(6, .int s0), (0, .ref (gva E 200)), (1, .ref (gX E + 0)), (2, .ref (gX E + 559)), (3, .ref (gX E + 570)), (4, .ref (gX E + 571)), (5, .int x5)] dL_law_616 (by decide) rfl ?_
  refine g_aload_n 3 dL_law_618 rfl ?_
  refine g_aload_n 1 dL_law_619 rfl ?_
  refine g_iload 6 dL_law_620 rfl ?_
  refine g_iconst dL_law_622 (1 : Int32) (by decide) ?_
  refine g_iadd dL_law_623 ?_
  obtain ⟨h54, hp⟩ := hp
  refine g_sld hN hxs h54 dL_law_624 ?_
  refine g_aload_n 1 dL_law_625 rfl ?_
  refine g_iload 6 dL_law_626 rfl ?_
  refine g_iconst dL_law_628 (2 : Int32) (by decide) ?_
  refine g_iadd dL_law_629 ?_
  obtain ⟨h55, hp⟩ := hp
  refine g_sld hN hxs h55 dL_law_630 ?_
  refine g_i2c dL_law_631 ?_
  refine g_aload_n 1 dL_law_632 rfl ?_
  refine g_iload 6 dL_law_633 rfl ?_
  refine g_iconst dL_law_635 (3 : Int32) (by decide) ?_
  refine g_iadd dL_law_636 ?_
  obtain ⟨h56, hp⟩ := hp
  refine g_sld hN hxs h56 dL_law_637 ?_
  obtain ⟨h57, hp⟩ := hp
  refine g_callV (rest := []) s_L_210_X12 rfl (c_X12_claim_ (E := E) (d := d - 1)   (by omega) (xs (x5 + (1 : Int32)).toNatClampNeg) (((xs (x5 + (2 : Int32)).toNatClampNeg).toUInt32 % 65536).toInt32) (xs (x5 + (3 : Int32)).toNatClampNeg) v h57) (by decide : kd 559 = (0, 9)) (show 559 < 572 by decide) rfl rfl (Nat.le_of_ble_eq_true rfl) (by omega) (by omega) (by omega) dL_law_638 (adV ?_) axN
  refine g_room (k' := (322 * nf + 0)) (n' := (2566 * nf + 0)) (by omega) (by omega) ?_
  refine g_lv (lv' := [(0, .ref (gva E 200)), (1, .ref (gX E + 0)), (2, .ref (gX E + 559)), (3, .ref (gX E + 570)), (4, .ref (gX E + 571)), (5, .int x5), (6, .int s0)]) [1, 2, 3, 4, 5, 6, 0] rfl ?_
  exact w_L_law_641 nf N xs hN hxs hd K28 PK28 hK28 x5 s0 ((f_X12_claim_ (xs (x5 + (1 : Int32)).toNatClampNeg) (((xs (x5 + (2 : Int32)).toNatClampNeg).toUInt32 % 65536).toInt32) (xs (x5 + (3 : Int32)).toNatClampNeg) v).1) (f_X12_claim_ (xs (x5 + (1 : Int32)).toNatClampNeg) (((xs (x5 + (2 : Int32)).toNatClampNeg).toUInt32 % 65536).toInt32) (xs (x5 + (3 : Int32)).toNatClampNeg) v).2 hp hQ
def f_L_law_592 (N : Nat) (xs : Nat → Int32) (K28 : Int32 → gV → Int32 × gV)  (x5 : Int32) (v : gV) : Int32 × gV := f_L_law_616 N xs K28 x5 ((f_L_claim (xs (x5 + (1 : Int32)).toNatClampNeg) (((xs (x5 + (2 : Int32)).toNatClampNeg).toUInt32 % 65536).toInt32) (xs (x5 + (3 : Int32)).toNatClampNeg) v).1) (f_L_claim (xs (x5 + (1 : Int32)).toNatClampNeg) (((xs (x5 + (2 : Int32)).toNatClampNeg).toUInt32 % 65536).toInt32) (xs (x5 + (3 : Int32)).toNatClampNeg) v).2
def p_L_law_592 (N : Nat) (xs : Nat → Int32) (K28 : Int32 → gV → Int32 × gV)  (PK28 : Int32 → gV → Prop)  (x5 : Int32) (v : gV) : Prop := (vp_in (x5 + (1 : Int32)) N) ∧ ((vp_in (x5 + (2 : Int32)) N) ∧ ((vp_in (x5 + (3 : Int32)) N) ∧ ((p_L_claim (xs (x5 + (1 : Int32)).toNatClampNeg) (((xs (x5 + (2 : Int32)).toNatClampNeg).toUInt32 % 65536).toInt32) (xs (x5 + (3 : Int32)).toNatClampNeg) v) ∧ (p_L_law_616 N xs K28 PK28 x5 ((f_L_claim (xs (x5 + (1 : Int32)).toNatClampNeg) (((xs (x5 + (2 : Int32)).toNatClampNeg).toUInt32 % 65536).toInt32) (xs (x5 + (3 : Int32)).toNatClampNeg) v).1) (f_L_claim (xs (x5 + (1 : Int32)).toNatClampNeg) (((xs (x5 + (2 : Int32)).toNatClampNeg).toUInt32 % 65536).toInt32) (xs (x5 + (3 : Int32)).toNatClampNeg) v).2))))
set_option maxHeartbeats 4000000 in
set_option maxRecDepth 100000 in
theorem w_L_law_592 {E : gE} {d : Nat} {Q : gO → gS → Prop} (nf : Nat) (N : Nat) (xs : Nat → Int32) (hN : gva E 201 = N) (hxs : gxs E = xs) (hd : 16 ≤ d) (K28 : Int32 → gV → Int32 × gV)  (PK28 : Int32 → gV → Prop)  (hK28 : ∀ (x5 : Int32) (v : gV), PK28 x5 v → gqIV Q (K28 x5 v) → gG E m_L_law d Q (322 * nf) (2566 * nf) (rS v) 28 [(0, .ref (gva E 200)), (1, .ref (gX E + 0)), (2, .ref (gX E + 559)), (3, .ref (gX E + 570)), (4, .ref (gX E + 571)), (5, .int x5)] [])  (x5 : Int32) (v : gV) (hp : p_L_law_592 N xs K28 PK28 x5 v) (hQ : gqIV Q (f_L_law_592 N xs K28 x5 v)) : gG E m_L_law d Q (322 * nf + 3) (2566 * nf + 18) (rS v) 592 [(0, .ref (gva E 200)), (1, .ref (gX E + 0)), (2, .ref (gX E + 559)), (3, .ref (gX E + 570)), (4, .ref (gX E + 571)), (5, .int x5)] [] := by
  refine g_aload_n 1 dL_law_592 rfl ?_
  refine g_aload_n 0 dL_law_593 rfl ?_
  refine g_iload 5 dL_law_594 rfl ?_
  refine g_iconst dL_law_596 (1 : Int32) (by decide) ?_
  refine g_iadd dL_law_597 ?_
  obtain ⟨h50, hp⟩ := hp
  refine g_sld hN hxs h50 dL_law_598 ?_
  refine g_aload_n 0 dL_law_599 rfl ?_
  refine g_iload 5 dL_law_600 rfl ?_
  refine g_iconst dL_law_602 (2 : Int32) (by decide) ?_
  refine g_iadd dL_law_603 ?_
  obtain ⟨h51, hp⟩ := hp
  refine g_sld hN hxs h51 dL_law_604 ?_
  refine g_i2c dL_law_605 ?_
  refine g_aload_n 0 dL_law_606 rfl ?_
  refine g_iload 5 dL_law_607 rfl ?_
  refine g_iconst dL_law_609 (3 : Int32) (by decide) ?_
  refine g_iadd dL_law_610 ?_
  obtain ⟨h52, hp⟩ := hp
  refine g_sld hN hxs h52 dL_law_611 ?_
  refine g_aload_n 3 dL_law_612 rfl ?_
  obtain ⟨h53, hp⟩ := hp
  refine g_callT (rest := []) s_L_207 rfl (c_L_claim (E := E) (d := d - 1)   (by omega) (xs (x5 + (1 : Int32)).toNatClampNeg) (((xs (x5 + (2 : Int32)).toNatClampNeg).toUInt32 % 65536).toInt32) (xs (x5 + (3 : Int32)).toNatClampNeg) v h53) cqn rfl rfl (Nat.le_of_ble_eq_true rfl) (by omega) (by omega) (by omega) dL_law_613 (adV ?_)
  refine g_room (k' := (322 * nf + 0)) (n' := (2566 * nf + 0)) (by omega) (by omega) ?_
  exact w_L_law_616 nf N xs hN hxs hd K28 PK28 hK28 x5 ((f_L_claim (xs (x5 + (1 : Int32)).toNatClampNeg) (((xs (x5 + (2 : Int32)).toNatClampNeg).toUInt32 % 65536).toInt32) (xs (x5 + (3 : Int32)).toNatClampNeg) v).1) (f_L_claim (xs (x5 + (1 : Int32)).toNatClampNeg) (((xs (x5 + (2 : Int32)).toNatClampNeg).toUInt32 % 65536).toInt32) (xs (x5 + (3 : Int32)).toNatClampNeg) v).2 hp hQ
def f_L_law_739 (N : Nat) (xs : Nat → Int32) (K28 : Int32 → gV → Int32 × gV)  (x5 : Int32) (v : gV) : Int32 × gV := f_L_law_3401 N xs K28 x5 v
def p_L_law_739 (N : Nat) (xs : Nat → Int32) (K28 : Int32 → gV → Int32 × gV)  (PK28 : Int32 → gV → Prop)  (x5 : Int32) (v : gV) : Prop := p_L_law_3401 N xs K28 PK28 x5 v
set_option maxHeartbeats 4000000 in
set_option maxRecDepth 100000 in
theorem w_L_law_739 {E : gE} {d : Nat} {Q : gO → gS → Prop} (nf : Nat) (N : Nat) (xs : Nat → Int32) (hN : gva E 201 = N) (hxs : gxs E = xs) (hd : 16 ≤ d) (K28 : Int32 → gV → Int32 × gV)  (PK28 : Int32 → gV → Prop)  (hK28 : ∀ (x5 : Int32) (v : gV), PK28 x5 v → gqIV Q (K28 x5 v) → gG E m_L_law d Q (322 * nf) (2566 * nf) (rS v) 28 [(0, .ref (gva E 200)), (1, .ref (gX E + 0)), (2, .ref (gX E + 559)), (3, .ref (gX E + 570)), (4, .ref (gX E + 571)), (5, .int x5)] [])  (x5 : Int32) (v : gV) (hp : p_L_law_739 N xs K28 PK28 x5 v) (hQ : gqIV Q (f_L_law_739 N xs K28 x5 v)) : gG E m_L_law d Q (322 * nf + 0) (2566 * nf + 0) (rS v) 739 [(0, .ref (gva E 200)), (1, .ref (gX E + 0)), (2, .ref (gX E + 559)), (3, .ref (gX E + 570)), (4, .ref (gX E + 571)), (5, .int x5)] [] := by
  refine g_goto 3401 dL_law_739 (by decide) ?_
  refine g_room (k' := (322 * nf + 0)) (n' := (2566 * nf + 0)) (by omega) (by omega) ?_
  exact w_L_law_3401 nf N xs hN hxs hd K28 PK28 hK28 x5 v hp hQ
def f_L_law_709 (N : Nat) (xs : Nat → Int32) (K28 : Int32 → gV → Int32 × gV)  (x5 : Int32) (x6 : Int32) (s0 : Int32) (v : gV) : Int32 × gV := if (f_X12_thrown  v) = x6 then (if x6 = 0 then (if (lg_cmp (v.2.1 570 (0 : Int32).toNatClampNeg) s0.toInt64) = 0 then (f_L_law_739 N xs K28 x5 v) else (((0 : Int32), v))) else (f_L_law_739 N xs K28 x5 v)) else (((0 : Int32), v))
def p_L_law_709 (N : Nat) (xs : Nat → Int32) (K28 : Int32 → gV → Int32 × gV)  (PK28 : Int32 → gV → Prop)  (x5 : Int32) (x6 : Int32) (s0 : Int32) (v : gV) : Prop := (p_X12_thrown  v) ∧ ((((f_X12_thrown  v) = x6) → (((x6 = 0) → ((((lg_cmp (v.2.1 570 (0 : Int32).toNatClampNeg) s0.toInt64) = 0) → (p_L_law_739 N xs K28 PK28 x5 v)) ∧ (¬ ((lg_cmp (v.2.1 570 (0 : Int32).toNatClampNeg) s0.toInt64) = 0) → (True)))) ∧ (¬ (x6 = 0) → (p_L_law_739 N xs K28 PK28 x5 v)))) ∧ (¬ ((f_X12_thrown  v) = x6) → (True)))
set_option maxHeartbeats 4000000 in
set_option maxRecDepth 100000 in
theorem w_L_law_709 {E : gE} {d : Nat} {Q : gO → gS → Prop} (nf : Nat) (N : Nat) (xs : Nat → Int32) (hN : gva E 201 = N) (hxs : gxs E = xs) (hd : 16 ≤ d) (K28 : Int32 → gV → Int32 × gV)  (PK28 : Int32 → gV → Prop)  (hK28 : ∀ (x5 : Int32) (v : gV), PK28 x5 v → gqIV Q (K28 x5 v) → gG E m_L_law d Q (322 * nf) (2566 * nf) (rS v) 28 [(0, .ref (gva E 200)), (1, .ref (gX E + 0)), (2, .ref (gX E + 559)), (3, .ref (gX E + 570)), (4, .ref (gX E + 571)), (5, .int x5)] [])  (x5 : Int32) (x6 : Int32) (s0 : Int32) (v : gV) (hp : p_L_law_709 N xs K28 PK28 x5 x6 s0 v) (hQ : gqIV Q (f_L_law_709 N xs K28 x5 x6 s0 v)) : gG E m_L_law d Q (322 * nf + 0) (2566 * nf + 0) (rS v) 709 [(0, .ref (gva E 200)), (1, .ref (gX E + 0)), (2, .ref (gX E + 559)), (3, .ref (gX E + 570)), (4, .ref (gX E + 571)), (5, .int x5), (6, .int x6)] [.int s0] := by
  refine g_istore [(7, .int s0), (0, .ref (gva E 200)), (1, .ref (gX E + 0)), (2, .ref (gX E + 559)), (3, .ref (gX E + 570)), (4, .ref (gX E + 571)), (5, .int x5), (6, .int x6)] dL_law_709 (by decide) rfl ?_
  refine g_aload_n 3 dL_law_711 rfl ?_
  obtain ⟨h69, hp⟩ := hp
  refine g_callV (rest := []) s_L_193_X12 rfl (c_X12_thrown (E := E) (d := d - 1)   (by omega)  v h69) (by decide : kd 559 = (0, 9)) (show 559 < 572 by decide) rfl rfl (Nat.le_of_ble_eq_true rfl) (by omega) (by omega) (by omega) dL_law_712 (adV ?_) axN
  refine g_iload 7 dL_law_715 rfl ?_
  refine g_icmp_eq 722 dL_law_717 (by decide) (fun h70 => ?_) (fun h70 => ?_)
  · have hQ := qp (P := gqIV Q) h70 hQ
    have hp := hp.1 h70
    refine g_iload 7 dL_law_722 rfl ?_
    refine g_if_ne 739 dL_law_724 (by decide) (fun h71 => ?_) (fun h71 => ?_)
    · have hQ := qn (P := gqIV Q) h71 hQ
      have hp := hp.2 h71
      refine g_room (k' := (322 * nf + 0)) (n' := (2566 * nf + 0)) (by omega) (by omega) ?_
      refine g_lv (lv' := [(0, .ref (gva E 200)), (1, .ref (gX E + 0)), (2, .ref (gX E + 559)), (3, .ref (gX E + 570)), (4, .ref (gX E + 571)), (5, .int x5)]) [1, 2, 3, 4, 5, 6] rfl ?_
      exact w_L_law_739 nf N xs hN hxs hd K28 PK28 hK28 x5 v hp hQ
    · have hQ := qp (P := gqIV Q) h71 hQ
      have hp := hp.1 h71
      refine g_aload_n 4 dL_law_727 rfl ?_
      refine g_iconst dL_law_728 (0 : Int32) (by decide) ?_
      refine g_lald (by decide : kd 570 = (3, 1)) (show 570 < 572 by decide) (show ¬ (_ ∨ _) by decide) dL_law_729 ?_
      refine g_iload 0 dL_law_730 rfl ?_
      refine g_i2l dL_law_732 ?_
      refine g_lcmp dL_law_733 ?_
      refine g_if_eq 739 dL_law_734 (by decide) (fun h72 => ?_) (fun h72 => ?_)
      · have hQ := qp (P := gqIV Q) h72 hQ
        have hp := hp.1 h72
        refine g_room (k' := (322 * nf + 0)) (n' := (2566 * nf + 0)) (by omega) (by omega) ?_
        refine g_lv (lv' := [(0, .ref (gva E 200)), (1, .ref (gX E + 0)), (2, .ref (gX E + 559)), (3, .ref (gX E + 570)), (4, .ref (gX E + 571)), (5, .int x5)]) [1, 2, 3, 4, 5, 6] rfl ?_
        exact w_L_law_739 nf N xs hN hxs hd K28 PK28 hK28 x5 v hp hQ
      · have hQ := qn (P := gqIV Q) h72 hQ
        have hp := hp.2 h72
        refine g_iconst dL_law_737 (0 : Int32) (by decide) ?_
        exact g_zret rfl rfl dL_law_738 hQ
  · have hQ := qn (P := gqIV Q) h70 hQ
    have hp := hp.2 h70
    refine g_iconst dL_law_720 (0 : Int32) (by decide) ?_
    exact g_zret rfl rfl dL_law_721 hQ
def f_L_law_691 (N : Nat) (xs : Nat → Int32) (K28 : Int32 → gV → Int32 × gV)  (x5 : Int32) (s0 : Int32) (v : gV) : Int32 × gV := f_L_law_709 N xs K28 x5 s0 ((f_X12_pay (xs (x5 + (1 : Int32)).toNatClampNeg) (xs (x5 + (2 : Int32)).toNatClampNeg) v).1) (f_X12_pay (xs (x5 + (1 : Int32)).toNatClampNeg) (xs (x5 + (2 : Int32)).toNatClampNeg) v).2
def p_L_law_691 (N : Nat) (xs : Nat → Int32) (K28 : Int32 → gV → Int32 × gV)  (PK28 : Int32 → gV → Prop)  (x5 : Int32) (s0 : Int32) (v : gV) : Prop := (vp_in (x5 + (1 : Int32)) N) ∧ ((vp_in (x5 + (2 : Int32)) N) ∧ ((p_X12_pay (xs (x5 + (1 : Int32)).toNatClampNeg) (xs (x5 + (2 : Int32)).toNatClampNeg) v) ∧ (p_L_law_709 N xs K28 PK28 x5 s0 ((f_X12_pay (xs (x5 + (1 : Int32)).toNatClampNeg) (xs (x5 + (2 : Int32)).toNatClampNeg) v).1) (f_X12_pay (xs (x5 + (1 : Int32)).toNatClampNeg) (xs (x5 + (2 : Int32)).toNatClampNeg) v).2)))
set_option maxHeartbeats 4000000 in
set_option maxRecDepth 100000 in
theorem w_L_law_691 {E : gE} {d : Nat} {Q : gO → gS → Prop} (nf : Nat) (N : Nat) (xs : Nat → Int32) (hN : gva E 201 = N) (hxs : gxs E = xs) (hd : 16 ≤ d) (K28 : Int32 → gV → Int32 × gV)  (PK28 : Int32 → gV → Prop)  (hK28 : ∀ (x5 : Int32) (v : gV), PK28 x5 v → gqIV Q (K28 x5 v) → gG E m_L_law d Q (322 * nf) (2566 * nf) (rS v) 28 [(0, .ref (gva E 200)), (1, .ref (gX E + 0)), (2, .ref (gX E + 559)), (3, .ref (gX E + 570)), (4, .ref (gX E + 571)), (5, .int x5)] [])  (x5 : Int32) (s0 : Int32) (v : gV) (hp : p_L_law_691 N xs K28 PK28 x5 s0 v) (hQ : gqIV Q (f_L_law_691 N xs K28 x5 s0 v)) : gG E m_L_law d Q (322 * nf + 0) (2566 * nf + 0) (rS v) 691 [(0, .ref (gva E 200)), (1, .ref (gX E + 0)), (2, .ref (gX E + 559)), (3, .ref (gX E + 570)), (4, .ref (gX E + 571)), (5, .int x5)] [.int s0] := by
  refine g_istore [(6, .int s0), (0, .ref (gva E 200)), (1, .ref (gX E + 0)), (2, .ref (gX E + 559)), (3, .ref (gX E + 570)), (4, .ref (gX E + 571)), (5, .int x5)] dL_law_691 (by decide) rfl ?_
  refine g_aload_n 3 dL_law_693 rfl ?_
  refine g_aload_n 1 dL_law_694 rfl ?_
  refine g_iload 6 dL_law_695 rfl ?_
  refine g_iconst dL_law_697 (1 : Int32) (by decide) ?_
  refine g_iadd dL_law_698 ?_
  obtain ⟨h66, hp⟩ := hp
  refine g_sld hN hxs h66 dL_law_699 ?_
  refine g_aload_n 1 dL_law_700 rfl ?_
  refine g_iload 6 dL_law_701 rfl ?_
  refine g_iconst dL_law_703 (2 : Int32) (by decide) ?_
  refine g_iadd dL_law_704 ?_
  obtain ⟨h67, hp⟩ := hp
  refine g_sld hN hxs h67 dL_law_705 ?_
  obtain ⟨h68, hp⟩ := hp
  refine g_callV (rest := []) s_L_214_X12 rfl (c_X12_pay (E := E) (d := d - 1)   (by omega) (xs (x5 + (1 : Int32)).toNatClampNeg) (xs (x5 + (2 : Int32)).toNatClampNeg) v h68) (by decide : kd 559 = (0, 9)) (show 559 < 572 by decide) rfl rfl (Nat.le_of_ble_eq_true rfl) (by omega) (by omega) (by omega) dL_law_706 (adV ?_) axN
  refine g_room (k' := (322 * nf + 0)) (n' := (2566 * nf + 0)) (by omega) (by omega) ?_
  refine g_lv (lv' := [(0, .ref (gva E 200)), (1, .ref (gX E + 0)), (2, .ref (gX E + 559)), (3, .ref (gX E + 570)), (4, .ref (gX E + 571)), (5, .int x5), (6, .int s0)]) [1, 2, 3, 4, 5, 6, 0] rfl ?_
  exact w_L_law_709 nf N xs hN hxs hd K28 PK28 hK28 x5 s0 ((f_X12_pay (xs (x5 + (1 : Int32)).toNatClampNeg) (xs (x5 + (2 : Int32)).toNatClampNeg) v).1) (f_X12_pay (xs (x5 + (1 : Int32)).toNatClampNeg) (xs (x5 + (2 : Int32)).toNatClampNeg) v).2 hp hQ
def f_L_law_674 (N : Nat) (xs : Nat → Int32) (K28 : Int32 → gV → Int32 × gV)  (x5 : Int32) (v : gV) : Int32 × gV := f_L_law_691 N xs K28 x5 ((f_L_pay (xs (x5 + (1 : Int32)).toNatClampNeg) (xs (x5 + (2 : Int32)).toNatClampNeg) v).1) (f_L_pay (xs (x5 + (1 : Int32)).toNatClampNeg) (xs (x5 + (2 : Int32)).toNatClampNeg) v).2
def p_L_law_674 (N : Nat) (xs : Nat → Int32) (K28 : Int32 → gV → Int32 × gV)  (PK28 : Int32 → gV → Prop)  (x5 : Int32) (v : gV) : Prop := (vp_in (x5 + (1 : Int32)) N) ∧ ((vp_in (x5 + (2 : Int32)) N) ∧ ((p_L_pay (xs (x5 + (1 : Int32)).toNatClampNeg) (xs (x5 + (2 : Int32)).toNatClampNeg) v) ∧ (p_L_law_691 N xs K28 PK28 x5 ((f_L_pay (xs (x5 + (1 : Int32)).toNatClampNeg) (xs (x5 + (2 : Int32)).toNatClampNeg) v).1) (f_L_pay (xs (x5 + (1 : Int32)).toNatClampNeg) (xs (x5 + (2 : Int32)).toNatClampNeg) v).2)))
set_option maxHeartbeats 4000000 in
set_option maxRecDepth 100000 in
theorem w_L_law_674 {E : gE} {d : Nat} {Q : gO → gS → Prop} (nf : Nat) (N : Nat) (xs : Nat → Int32) (hN : gva E 201 = N) (hxs : gxs E = xs) (hd : 16 ≤ d) (K28 : Int32 → gV → Int32 × gV)  (PK28 : Int32 → gV → Prop)  (hK28 : ∀ (x5 : Int32) (v : gV), PK28 x5 v → gqIV Q (K28 x5 v) → gG E m_L_law d Q (322 * nf) (2566 * nf) (rS v) 28 [(0, .ref (gva E 200)), (1, .ref (gX E + 0)), (2, .ref (gX E + 559)), (3, .ref (gX E + 570)), (4, .ref (gX E + 571)), (5, .int x5)] [])  (x5 : Int32) (v : gV) (hp : p_L_law_674 N xs K28 PK28 x5 v) (hQ : gqIV Q (f_L_law_674 N xs K28 x5 v)) : gG E m_L_law d Q (322 * nf + 3) (2566 * nf + 18) (rS v) 674 [(0, .ref (gva E 200)), (1, .ref (gX E + 0)), (2, .ref (gX E + 559)), (3, .ref (gX E + 570)), (4, .ref (gX E + 571)), (5, .int x5)] [] := by
  refine g_aload_n 1 dL_law_674 rfl ?_
  refine g_aload_n 0 dL_law_675 rfl ?_
  refine g_iload 5 dL_law_676 rfl ?_
  refine g_iconst dL_law_678 (1 : Int32) (by decide) ?_
  refine g_iadd dL_law_679 ?_
  obtain ⟨h63, hp⟩ := hp
  refine g_sld hN hxs h63 dL_law_680 ?_
  refine g_aload_n 0 dL_law_681 rfl ?_
  refine g_iload 5 dL_law_682 rfl ?_
  refine g_iconst dL_law_684 (2 : Int32) (by decide) ?_
  refine g_iadd dL_law_685 ?_
  obtain ⟨h64, hp⟩ := hp
  refine g_sld hN hxs h64 dL_law_686 ?_
  refine g_aload_n 3 dL_law_687 rfl ?_
  obtain ⟨h65, hp⟩ := hp
  refine g_callT (rest := []) s_L_211 rfl (c_L_pay (E := E) (d := d - 1)   (by omega) (xs (x5 + (1 : Int32)).toNatClampNeg) (xs (x5 + (2 : Int32)).toNatClampNeg) v h65) cqn rfl rfl (Nat.le_of_ble_eq_true rfl) (by omega) (by omega) (by omega) dL_law_688 (adV ?_)
  refine g_room (k' := (322 * nf + 0)) (n' := (2566 * nf + 0)) (by omega) (by omega) ?_
  exact w_L_law_691 nf N xs hN hxs hd K28 PK28 hK28 x5 ((f_L_pay (xs (x5 + (1 : Int32)).toNatClampNeg) (xs (x5 + (2 : Int32)).toNatClampNeg) v).1) (f_L_pay (xs (x5 + (1 : Int32)).toNatClampNeg) (xs (x5 + (2 : Int32)).toNatClampNeg) v).2 hp hQ
def f_L_law_795 (N : Nat) (xs : Nat → Int32) (K28 : Int32 → gV → Int32 × gV)  (x5 : Int32) (v : gV) : Int32 × gV := f_L_law_3401 N xs K28 x5 v
def p_L_law_795 (N : Nat) (xs : Nat → Int32) (K28 : Int32 → gV → Int32 × gV)  (PK28 : Int32 → gV → Prop)  (x5 : Int32) (v : gV) : Prop := p_L_law_3401 N xs K28 PK28 x5 v
set_option maxHeartbeats 4000000 in
set_option maxRecDepth 100000 in
theorem w_L_law_795 {E : gE} {d : Nat} {Q : gO → gS → Prop} (nf : Nat) (N : Nat) (xs : Nat → Int32) (hN : gva E 201 = N) (hxs : gxs E = xs) (hd : 16 ≤ d) (K28 : Int32 → gV → Int32 × gV)  (PK28 : Int32 → gV → Prop)  (hK28 : ∀ (x5 : Int32) (v : gV), PK28 x5 v → gqIV Q (K28 x5 v) → gG E m_L_law d Q (322 * nf) (2566 * nf) (rS v) 28 [(0, .ref (gva E 200)), (1, .ref (gX E + 0)), (2, .ref (gX E + 559)), (3, .ref (gX E + 570)), (4, .ref (gX E + 571)), (5, .int x5)] [])  (x5 : Int32) (v : gV) (hp : p_L_law_795 N xs K28 PK28 x5 v) (hQ : gqIV Q (f_L_law_795 N xs K28 x5 v)) : gG E m_L_law d Q (322 * nf + 0) (2566 * nf + 0) (rS v) 795 [(0, .ref (gva E 200)), (1, .ref (gX E + 0)), (2, .ref (gX E + 559)), (3, .ref (gX E + 570)), (4, .ref (gX E + 571)), (5, .int x5)] [] := by
  refine g_goto 3401 dL_law_795 (by decide) ?_
  refine g_room (k' := (322 * nf + 0)) (n' := (2566 * nf + 0)) (by omega) (by omega) ?_
  exact w_L_law_3401 nf N xs hN hxs hd K28 PK28 hK28 x5 v hp hQ
def f_L_law_765 (N : Nat) (xs : Nat → Int32) (K28 : Int32 → gV → Int32 × gV)  (x5 : Int32) (x6 : Int32) (s0 : Int32) (v : gV) : Int32 × gV := if (f_X12_thrown  v) = x6 then (if x6 = 0 then (if (lg_cmp (v.2.1 570 (0 : Int32).toNatClampNeg) s0.toInt64) = 0 then (f_L_law_795 N xs K28 x5 v) else (((0 : Int32), v))) else (f_L_law_795 N xs K28 x5 v)) else (((0 : Int32), v))
def p_L_law_765 (N : Nat) (xs : Nat → Int32) (K28 : Int32 → gV → Int32 × gV)  (PK28 : Int32 → gV → Prop)  (x5 : Int32) (x6 : Int32) (s0 : Int32) (v : gV) : Prop := (p_X12_thrown  v) ∧ ((((f_X12_thrown  v) = x6) → (((x6 = 0) → ((((lg_cmp (v.2.1 570 (0 : Int32).toNatClampNeg) s0.toInt64) = 0) → (p_L_law_795 N xs K28 PK28 x5 v)) ∧ (¬ ((lg_cmp (v.2.1 570 (0 : Int32).toNatClampNeg) s0.toInt64) = 0) → (True)))) ∧ (¬ (x6 = 0) → (p_L_law_795 N xs K28 PK28 x5 v)))) ∧ (¬ ((f_X12_thrown  v) = x6) → (True)))
set_option maxHeartbeats 4000000 in
set_option maxRecDepth 100000 in
theorem w_L_law_765 {E : gE} {d : Nat} {Q : gO → gS → Prop} (nf : Nat) (N : Nat) (xs : Nat → Int32) (hN : gva E 201 = N) (hxs : gxs E = xs) (hd : 16 ≤ d) (K28 : Int32 → gV → Int32 × gV)  (PK28 : Int32 → gV → Prop)  (hK28 : ∀ (x5 : Int32) (v : gV), PK28 x5 v → gqIV Q (K28 x5 v) → gG E m_L_law d Q (322 * nf) (2566 * nf) (rS v) 28 [(0, .ref (gva E 200)), (1, .ref (gX E + 0)), (2, .ref (gX E + 559)), (3, .ref (gX E + 570)), (4, .ref (gX E + 571)), (5, .int x5)] [])  (x5 : Int32) (x6 : Int32) (s0 : Int32) (v : gV) (hp : p_L_law_765 N xs K28 PK28 x5 x6 s0 v) (hQ : gqIV Q (f_L_law_765 N xs K28 x5 x6 s0 v)) : gG E m_L_law d Q (322 * nf + 0) (2566 * nf + 0) (rS v) 765 [(0, .ref (gva E 200)), (1, .ref (gX E + 0)), (2, .ref (gX E + 559)), (3, .ref (gX E + 570)), (4, .ref (gX E + 571)), (5, .int x5), (6, .int x6)] [.int s0] := by
  refine g_istore [(7, .int s0), (0, .ref (gva E 200)), (1, .ref (gX E + 0)), (2, .ref (gX E + 559)), (3, .ref (gX E + 570)), (4, .ref (gX E + 571)), (5, .int x5), (6, .int x6)] dL_law_765 (by decide) rfl ?_
  refine g_aload_n 3 dL_law_767 rfl ?_
  obtain ⟨h78, hp⟩ := hp
  refine g_callV (rest := []) s_L_193_X12 rfl (c_X12_thrown (E := E) (d := d - 1)   (by omega)  v h78) (by decide : kd 559 = (0, 9)) (show 559 < 572 by decide) rfl rfl (Nat.le_of_ble_eq_true rfl) (by omega) (by omega) (by omega) dL_law_768 (adV ?_) axN
  refine g_iload 7 dL_law_771 rfl ?_
  refine g_icmp_eq 778 dL_law_773 (by decide) (fun h79 => ?_) (fun h79 => ?_)
  · have hQ := qp (P := gqIV Q) h79 hQ
    have hp := hp.1 h79
    refine g_iload 7 dL_law_778 rfl ?_
    refine g_if_ne 795 dL_law_780 (by decide) (fun h80 => ?_) (fun h80 => ?_)
    · have hQ := qn (P := gqIV Q) h80 hQ
      have hp := hp.2 h80
      refine g_room (k' := (322 * nf + 0)) (n' := (2566 * nf + 0)) (by omega) (by omega) ?_
      refine g_lv (lv' := [(0, .ref (gva E 200)), (1, .ref (gX E + 0)), (2, .ref (gX E + 559)), (3, .ref (gX E + 570)), (4, .ref (gX E + 571)), (5, .int x5)]) [1, 2, 3, 4, 5, 6] rfl ?_
      exact w_L_law_795 nf N xs hN hxs hd K28 PK28 hK28 x5 v hp hQ
    · have hQ := qp (P := gqIV Q) h80 hQ
      have hp := hp.1 h80
      refine g_aload_n 4 dL_law_783 rfl ?_
      refine g_iconst dL_law_784 (0 : Int32) (by decide) ?_
      refine g_lald (by decide : kd 570 = (3, 1)) (show 570 < 572 by decide) (show ¬ (_ ∨ _) by decide) dL_law_785 ?_
      refine g_iload 0 dL_law_786 rfl ?_
      refine g_i2l dL_law_788 ?_
      refine g_lcmp dL_law_789 ?_
      refine g_if_eq 795 dL_law_790 (by decide) (fun h81 => ?_) (fun h81 => ?_)
      · have hQ := qp (P := gqIV Q) h81 hQ
        have hp := hp.1 h81
        refine g_room (k' := (322 * nf + 0)) (n' := (2566 * nf + 0)) (by omega) (by omega) ?_
        refine g_lv (lv' := [(0, .ref (gva E 200)), (1, .ref (gX E + 0)), (2, .ref (gX E + 559)), (3, .ref (gX E + 570)), (4, .ref (gX E + 571)), (5, .int x5)]) [1, 2, 3, 4, 5, 6] rfl ?_
        exact w_L_law_795 nf N xs hN hxs hd K28 PK28 hK28 x5 v hp hQ
      · have hQ := qn (P := gqIV Q) h81 hQ
        have hp := hp.2 h81
        refine g_iconst dL_law_793 (0 : Int32) (by decide) ?_
        exact g_zret rfl rfl dL_law_794 hQ
  · have hQ := qn (P := gqIV Q) h79 hQ
    have hp := hp.2 h79
    refine g_iconst dL_law_776 (0 : Int32) (by decide) ?_
    exact g_zret rfl rfl dL_law_777 hQ
def f_L_law_753 (N : Nat) (xs : Nat → Int32) (K28 : Int32 → gV → Int32 × gV)  (x5 : Int32) (s0 : Int32) (v : gV) : Int32 × gV := f_L_law_765 N xs K28 x5 s0 ((f_X12_closeClaim (xs (x5 + (1 : Int32)).toNatClampNeg) v).1) (f_X12_closeClaim (xs (x5 + (1 : Int32)).toNatClampNeg) v).2
def p_L_law_753 (N : Nat) (xs : Nat → Int32) (K28 : Int32 → gV → Int32 × gV)  (PK28 : Int32 → gV → Prop)  (x5 : Int32) (s0 : Int32) (v : gV) : Prop := (vp_in (x5 + (1 : Int32)) N) ∧ ((p_X12_closeClaim (xs (x5 + (1 : Int32)).toNatClampNeg) v) ∧ (p_L_law_765 N xs K28 PK28 x5 s0 ((f_X12_closeClaim (xs (x5 + (1 : Int32)).toNatClampNeg) v).1) (f_X12_closeClaim (xs (x5 + (1 : Int32)).toNatClampNeg) v).2))
set_option maxHeartbeats 4000000 in
set_option maxRecDepth 100000 in
theorem w_L_law_753 {E : gE} {d : Nat} {Q : gO → gS → Prop} (nf : Nat) (N : Nat) (xs : Nat → Int32) (hN : gva E 201 = N) (hxs : gxs E = xs) (hd : 16 ≤ d) (K28 : Int32 → gV → Int32 × gV)  (PK28 : Int32 → gV → Prop)  (hK28 : ∀ (x5 : Int32) (v : gV), PK28 x5 v → gqIV Q (K28 x5 v) → gG E m_L_law d Q (322 * nf) (2566 * nf) (rS v) 28 [(0, .ref (gva E 200)), (1, .ref (gX E + 0)), (2, .ref (gX E + 559)), (3, .ref (gX E + 570)), (4, .ref (gX E + 571)), (5, .int x5)] [])  (x5 : Int32) (s0 : Int32) (v : gV) (hp : p_L_law_753 N xs K28 PK28 x5 s0 v) (hQ : gqIV Q (f_L_law_753 N xs K28 x5 s0 v)) : gG E m_L_law d Q (322 * nf + 0) (2566 * nf + 0) (rS v) 753 [(0, .ref (gva E 200)), (1, .ref (gX E + 0)), (2, .ref (gX E + 559)), (3, .ref (gX E + 570)), (4, .ref (gX E + 571)), (5, .int x5)] [.int s0] := by
  refine g_istore [(6, .int s0), (0, .ref (gva E 200)), (1, .ref (gX E + 0)), (2, .ref (gX E + 559)), (3, .ref (gX E + 570)), (4, .ref (gX E + 571)), (5, .int x5)] dL_law_753 (by decide) rfl ?_
  refine g_aload_n 3 dL_law_755 rfl ?_
  refine g_aload_n 1 dL_law_756 rfl ?_
  refine g_iload 6 dL_law_757 rfl ?_
  refine g_iconst dL_law_759 (1 : Int32) (by decide) ?_
  refine g_iadd dL_law_760 ?_
  obtain ⟨h76, hp⟩ := hp
  refine g_sld hN hxs h76 dL_law_761 ?_
  obtain ⟨h77, hp⟩ := hp
  refine g_callV (rest := []) s_L_217_X12 rfl (c_X12_closeClaim (E := E) (d := d - 1)   (by omega) (xs (x5 + (1 : Int32)).toNatClampNeg) v h77) (by decide : kd 559 = (0, 9)) (show 559 < 572 by decide) rfl rfl (Nat.le_of_ble_eq_true rfl) (by omega) (by omega) (by omega) dL_law_762 (adV ?_) axN
  refine g_room (k' := (322 * nf + 0)) (n' := (2566 * nf + 0)) (by omega) (by omega) ?_
  refine g_lv (lv' := [(0, .ref (gva E 200)), (1, .ref (gX E + 0)), (2, .ref (gX E + 559)), (3, .ref (gX E + 570)), (4, .ref (gX E + 571)), (5, .int x5), (6, .int s0)]) [1, 2, 3, 4, 5, 6, 0] rfl ?_
  exact w_L_law_765 nf N xs hN hxs hd K28 PK28 hK28 x5 s0 ((f_X12_closeClaim (xs (x5 + (1 : Int32)).toNatClampNeg) v).1) (f_X12_closeClaim (xs (x5 + (1 : Int32)).toNatClampNeg) v).2 hp hQ
def f_L_law_742 (N : Nat) (xs : Nat → Int32) (K28 : Int32 → gV → Int32 × gV)  (x5 : Int32) (v : gV) : Int32 × gV := f_L_law_753 N xs K28 x5 ((f_L_closeClaim (xs (x5 + (1 : Int32)).toNatClampNeg) v).1) (f_L_closeClaim (xs (x5 + (1 : Int32)).toNatClampNeg) v).2
def p_L_law_742 (N : Nat) (xs : Nat → Int32) (K28 : Int32 → gV → Int32 × gV)  (PK28 : Int32 → gV → Prop)  (x5 : Int32) (v : gV) : Prop := (vp_in (x5 + (1 : Int32)) N) ∧ ((p_L_closeClaim (xs (x5 + (1 : Int32)).toNatClampNeg) v) ∧ (p_L_law_753 N xs K28 PK28 x5 ((f_L_closeClaim (xs (x5 + (1 : Int32)).toNatClampNeg) v).1) (f_L_closeClaim (xs (x5 + (1 : Int32)).toNatClampNeg) v).2))
set_option maxHeartbeats 4000000 in
set_option maxRecDepth 100000 in
theorem w_L_law_742 {E : gE} {d : Nat} {Q : gO → gS → Prop} (nf : Nat) (N : Nat) (xs : Nat → Int32) (hN : gva E 201 = N) (hxs : gxs E = xs) (hd : 16 ≤ d) (K28 : Int32 → gV → Int32 × gV)  (PK28 : Int32 → gV → Prop)  (hK28 : ∀ (x5 : Int32) (v : gV), PK28 x5 v → gqIV Q (K28 x5 v) → gG E m_L_law d Q (322 * nf) (2566 * nf) (rS v) 28 [(0, .ref (gva E 200)), (1, .ref (gX E + 0)), (2, .ref (gX E + 559)), (3, .ref (gX E + 570)), (4, .ref (gX E + 571)), (5, .int x5)] [])  (x5 : Int32) (v : gV) (hp : p_L_law_742 N xs K28 PK28 x5 v) (hQ : gqIV Q (f_L_law_742 N xs K28 x5 v)) : gG E m_L_law d Q (322 * nf + 2) (2566 * nf + 12) (rS v) 742 [(0, .ref (gva E 200)), (1, .ref (gX E + 0)), (2, .ref (gX E + 559)), (3, .ref (gX E + 570)), (4, .ref (gX E + 571)), (5, .int x5)] [] := by
  refine g_aload_n 1 dL_law_742 rfl ?_
  refine g_aload_n 0 dL_law_743 rfl ?_
  refine g_iload 5 dL_law_744 rfl ?_
  refine g_iconst dL_law_746 (1 : Int32) (by decide) ?_
  refine g_iadd dL_law_747 ?_
  obtain ⟨h74, hp⟩ := hp
  refine g_sld hN hxs h74 dL_law_748 ?_
  refine g_aload_n 3 dL_law_749 rfl ?_
  obtain ⟨h75, hp⟩ := hp
  refine g_callT (rest := []) s_L_215 rfl (c_L_closeClaim (E := E) (d := d - 1)   (by omega) (xs (x5 + (1 : Int32)).toNatClampNeg) v h75) cqn rfl rfl (Nat.le_of_ble_eq_true rfl) (by omega) (by omega) (by omega) dL_law_750 (adV ?_)
  refine g_room (k' := (322 * nf + 0)) (n' := (2566 * nf + 0)) (by omega) (by omega) ?_
  exact w_L_law_753 nf N xs hN hxs hd K28 PK28 hK28 x5 ((f_L_closeClaim (xs (x5 + (1 : Int32)).toNatClampNeg) v).1) (f_L_closeClaim (xs (x5 + (1 : Int32)).toNatClampNeg) v).2 hp hQ
def f_L_law_851 (N : Nat) (xs : Nat → Int32) (K28 : Int32 → gV → Int32 × gV)  (x5 : Int32) (v : gV) : Int32 × gV := f_L_law_3401 N xs K28 x5 v
def p_L_law_851 (N : Nat) (xs : Nat → Int32) (K28 : Int32 → gV → Int32 × gV)  (PK28 : Int32 → gV → Prop)  (x5 : Int32) (v : gV) : Prop := p_L_law_3401 N xs K28 PK28 x5 v
set_option maxHeartbeats 4000000 in
set_option maxRecDepth 100000 in
theorem w_L_law_851 {E : gE} {d : Nat} {Q : gO → gS → Prop} (nf : Nat) (N : Nat) (xs : Nat → Int32) (hN : gva E 201 = N) (hxs : gxs E = xs) (hd : 16 ≤ d) (K28 : Int32 → gV → Int32 × gV)  (PK28 : Int32 → gV → Prop)  (hK28 : ∀ (x5 : Int32) (v : gV), PK28 x5 v → gqIV Q (K28 x5 v) → gG E m_L_law d Q (322 * nf) (2566 * nf) (rS v) 28 [(0, .ref (gva E 200)), (1, .ref (gX E + 0)), (2, .ref (gX E + 559)), (3, .ref (gX E + 570)), (4, .ref (gX E + 571)), (5, .int x5)] [])  (x5 : Int32) (v : gV) (hp : p_L_law_851 N xs K28 PK28 x5 v) (hQ : gqIV Q (f_L_law_851 N xs K28 x5 v)) : gG E m_L_law d Q (322 * nf + 0) (2566 * nf + 0) (rS v) 851 [(0, .ref (gva E 200)), (1, .ref (gX E + 0)), (2, .ref (gX E + 559)), (3, .ref (gX E + 570)), (4, .ref (gX E + 571)), (5, .int x5)] [] := by
  refine g_goto 3401 dL_law_851 (by decide) ?_
  refine g_room (k' := (322 * nf + 0)) (n' := (2566 * nf + 0)) (by omega) (by omega) ?_
  exact w_L_law_3401 nf N xs hN hxs hd K28 PK28 hK28 x5 v hp hQ
def f_L_law_821 (N : Nat) (xs : Nat → Int32) (K28 : Int32 → gV → Int32 × gV)  (x5 : Int32) (x6 : Int32) (s0 : Int32) (v : gV) : Int32 × gV := if (f_X12_thrown  v) = x6 then (if x6 = 0 then (if (lg_cmp (v.2.1 570 (0 : Int32).toNatClampNeg) s0.toInt64) = 0 then (f_L_law_851 N xs K28 x5 v) else (((0 : Int32), v))) else (f_L_law_851 N xs K28 x5 v)) else (((0 : Int32), v))
def p_L_law_821 (N : Nat) (xs : Nat → Int32) (K28 : Int32 → gV → Int32 × gV)  (PK28 : Int32 → gV → Prop)  (x5 : Int32) (x6 : Int32) (s0 : Int32) (v : gV) : Prop := (p_X12_thrown  v) ∧ ((((f_X12_thrown  v) = x6) → (((x6 = 0) → ((((lg_cmp (v.2.1 570 (0 : Int32).toNatClampNeg) s0.toInt64) = 0) → (p_L_law_851 N xs K28 PK28 x5 v)) ∧ (¬ ((lg_cmp (v.2.1 570 (0 : Int32).toNatClampNeg) s0.toInt64) = 0) → (True)))) ∧ (¬ (x6 = 0) → (p_L_law_851 N xs K28 PK28 x5 v)))) ∧ (¬ ((f_X12_thrown  v) = x6) → (True)))
set_option maxHeartbeats 4000000 in
set_option maxRecDepth 100000 in
theorem w_L_law_821 {E : gE} {d : Nat} {Q : gO → gS → Prop} (nf : Nat) (N : Nat) (xs : Nat → Int32) (hN : gva E 201 = N) (hxs : gxs E = xs) (hd : 16 ≤ d) (K28 : Int32 → gV → Int32 × gV)  (PK28 : Int32 → gV → Prop)  (hK28 : ∀ (x5 : Int32) (v : gV), PK28 x5 v → gqIV Q (K28 x5 v) → gG E m_L_law d Q (322 * nf) (2566 * nf) (rS v) 28 [(0, .ref (gva E 200)), (1, .ref (gX E + 0)), (2, .ref (gX E + 559)), (3, .ref (gX E + 570)), (4, .ref (gX E + 571)), (5, .int x5)] [])  (x5 : Int32) (x6 : Int32) (s0 : Int32) (v : gV) (hp : p_L_law_821 N xs K28 PK28 x5 x6 s0 v) (hQ : gqIV Q (f_L_law_821 N xs K28 x5 x6 s0 v)) : gG E m_L_law d Q (322 * nf + 0) (2566 * nf + 0) (rS v) 821 [(0, .ref (gva E 200)), (1, .ref (gX E + 0)), (2, .ref (gX E + 559)), (3, .ref (gX E + 570)), (4, .ref (gX E + 571)), (5, .int x5), (6, .int x6)] [.int s0] := by
  refine g_istore [(7, .int s0), (0, .ref (gva E 200)), (1, .ref (gX E + 0)), (2, .ref (gX E + 559)), (3, .ref (gX E + 570)), (4, .ref (gX E + 571)), (5, .int x5), (6, .int x6)] dL_law_821 (by decide) rfl ?_
  refine g_aload_n 3 dL_law_823 rfl ?_
  obtain ⟨h87, hp⟩ := hp
  refine g_callV (rest := []) s_L_193_X12 rfl (c_X12_thrown (E := E) (d := d - 1)   (by omega)  v h87) (by decide : kd 559 = (0, 9)) (show 559 < 572 by decide) rfl rfl (Nat.le_of_ble_eq_true rfl) (by omega) (by omega) (by omega) dL_law_824 (adV ?_) axN
  refine g_iload 7 dL_law_827 rfl ?_
  refine g_icmp_eq 834 dL_law_829 (by decide) (fun h88 => ?_) (fun h88 => ?_)
  · have hQ := qp (P := gqIV Q) h88 hQ
    have hp := hp.1 h88
    refine g_iload 7 dL_law_834 rfl ?_
    refine g_if_ne 851 dL_law_836 (by decide) (fun h89 => ?_) (fun h89 => ?_)
    · have hQ := qn (P := gqIV Q) h89 hQ
      have hp := hp.2 h89
      refine g_room (k' := (322 * nf + 0)) (n' := (2566 * nf + 0)) (by omega) (by omega) ?_
      refine g_lv (lv' := [(0, .ref (gva E 200)), (1, .ref (gX E + 0)), (2, .ref (gX E + 559)), (3, .ref (gX E + 570)), (4, .ref (gX E + 571)), (5, .int x5)]) [1, 2, 3, 4, 5, 6] rfl ?_
      exact w_L_law_851 nf N xs hN hxs hd K28 PK28 hK28 x5 v hp hQ
    · have hQ := qp (P := gqIV Q) h89 hQ
      have hp := hp.1 h89
      refine g_aload_n 4 dL_law_839 rfl ?_
      refine g_iconst dL_law_840 (0 : Int32) (by decide) ?_
      refine g_lald (by decide : kd 570 = (3, 1)) (show 570 < 572 by decide) (show ¬ (_ ∨ _) by decide) dL_law_841 ?_
      refine g_iload 0 dL_law_842 rfl ?_
      refine g_i2l dL_law_844 ?_
      refine g_lcmp dL_law_845 ?_
      refine g_if_eq 851 dL_law_846 (by decide) (fun h90 => ?_) (fun h90 => ?_)
      · have hQ := qp (P := gqIV Q) h90 hQ
        have hp := hp.1 h90
        refine g_room (k' := (322 * nf + 0)) (n' := (2566 * nf + 0)) (by omega) (by omega) ?_
        refine g_lv (lv' := [(0, .ref (gva E 200)), (1, .ref (gX E + 0)), (2, .ref (gX E + 559)), (3, .ref (gX E + 570)), (4, .ref (gX E + 571)), (5, .int x5)]) [1, 2, 3, 4, 5, 6] rfl ?_
        exact w_L_law_851 nf N xs hN hxs hd K28 PK28 hK28 x5 v hp hQ
      · have hQ := qn (P := gqIV Q) h90 hQ
        have hp := hp.2 h90
        refine g_iconst dL_law_849 (0 : Int32) (by decide) ?_
        exact g_zret rfl rfl dL_law_850 hQ
  · have hQ := qn (P := gqIV Q) h88 hQ
    have hp := hp.2 h88
    refine g_iconst dL_law_832 (0 : Int32) (by decide) ?_
    exact g_zret rfl rfl dL_law_833 hQ
def f_L_law_809 (N : Nat) (xs : Nat → Int32) (K28 : Int32 → gV → Int32 × gV)  (x5 : Int32) (s0 : Int32) (v : gV) : Int32 × gV := f_L_law_821 N xs K28 x5 s0 ((f_X12_withdrawClaim (xs (x5 + (1 : Int32)).toNatClampNeg) v).1) (f_X12_withdrawClaim (xs (x5 + (1 : Int32)).toNatClampNeg) v).2
def p_L_law_809 (N : Nat) (xs : Nat → Int32) (K28 : Int32 → gV → Int32 × gV)  (PK28 : Int32 → gV → Prop)  (x5 : Int32) (s0 : Int32) (v : gV) : Prop := (vp_in (x5 + (1 : Int32)) N) ∧ ((p_X12_withdrawClaim (xs (x5 + (1 : Int32)).toNatClampNeg) v) ∧ (p_L_law_821 N xs K28 PK28 x5 s0 ((f_X12_withdrawClaim (xs (x5 + (1 : Int32)).toNatClampNeg) v).1) (f_X12_withdrawClaim (xs (x5 + (1 : Int32)).toNatClampNeg) v).2))
set_option maxHeartbeats 4000000 in
set_option maxRecDepth 100000 in
theorem w_L_law_809 {E : gE} {d : Nat} {Q : gO → gS → Prop} (nf : Nat) (N : Nat) (xs : Nat → Int32) (hN : gva E 201 = N) (hxs : gxs E = xs) (hd : 16 ≤ d) (K28 : Int32 → gV → Int32 × gV)  (PK28 : Int32 → gV → Prop)  (hK28 : ∀ (x5 : Int32) (v : gV), PK28 x5 v → gqIV Q (K28 x5 v) → gG E m_L_law d Q (322 * nf) (2566 * nf) (rS v) 28 [(0, .ref (gva E 200)), (1, .ref (gX E + 0)), (2, .ref (gX E + 559)), (3, .ref (gX E + 570)), (4, .ref (gX E + 571)), (5, .int x5)] [])  (x5 : Int32) (s0 : Int32) (v : gV) (hp : p_L_law_809 N xs K28 PK28 x5 s0 v) (hQ : gqIV Q (f_L_law_809 N xs K28 x5 s0 v)) : gG E m_L_law d Q (322 * nf + 0) (2566 * nf + 0) (rS v) 809 [(0, .ref (gva E 200)), (1, .ref (gX E + 0)), (2, .ref (gX E + 559)), (3, .ref (gX E + 570)), (4, .ref (gX E + 571)), (5, .int x5)] [.int s0] := by
  refine g_istore [(6, .int s0), (0, .ref (gva E 200)), (1, .ref (gX E + 0)), (2, .ref (gX E + 559)), (3, .ref (gX E + 570)), (4, .ref (gX E + 571)), (5, .int x5)] dL_law_809 (by decide) rfl ?_
  refine g_aload_n 3 dL_law_811 rfl ?_
  refine g_aload_n 1 dL_law_812 rfl ?_
  refine g_iload 6 dL_law_813 rfl ?_
  refine g_iconst dL_law_815 (1 : Int32) (by decide) ?_
  refine g_iadd dL_law_816 ?_
  obtain ⟨h85, hp⟩ := hp
  refine g_sld hN hxs h85 dL_law_817 ?_
  obtain ⟨h86, hp⟩ := hp
  refine g_callV (rest := []) s_L_220_X12 rfl (c_X12_withdrawClaim (E := E) (d := d - 1)   (by omega) (xs (x5 + (1 : Int32)).toNatClampNeg) v h86) (by decide : kd 559 = (0, 9)) (show 559 < 572 by decide) rfl rfl (Nat.le_of_ble_eq_true rfl) (by omega) (by omega) (by omega) dL_law_818 (adV ?_) axN
  refine g_room (k' := (322 * nf + 0)) (n' := (2566 * nf + 0)) (by omega) (by omega) ?_
  refine g_lv (lv' := [(0, .ref (gva E 200)), (1, .ref (gX E + 0)), (2, .ref (gX E + 559)), (3, .ref (gX E + 570)), (4, .ref (gX E + 571)), (5, .int x5), (6, .int s0)]) [1, 2, 3, 4, 5, 6, 0] rfl ?_
  exact w_L_law_821 nf N xs hN hxs hd K28 PK28 hK28 x5 s0 ((f_X12_withdrawClaim (xs (x5 + (1 : Int32)).toNatClampNeg) v).1) (f_X12_withdrawClaim (xs (x5 + (1 : Int32)).toNatClampNeg) v).2 hp hQ
def f_L_law_798 (N : Nat) (xs : Nat → Int32) (K28 : Int32 → gV → Int32 × gV)  (x5 : Int32) (v : gV) : Int32 × gV := f_L_law_809 N xs K28 x5 ((f_L_withdrawClaim (xs (x5 + (1 : Int32)).toNatClampNeg) v).1) (f_L_withdrawClaim (xs (x5 + (1 : Int32)).toNatClampNeg) v).2
def p_L_law_798 (N : Nat) (xs : Nat → Int32) (K28 : Int32 → gV → Int32 × gV)  (PK28 : Int32 → gV → Prop)  (x5 : Int32) (v : gV) : Prop := (vp_in (x5 + (1 : Int32)) N) ∧ ((p_L_withdrawClaim (xs (x5 + (1 : Int32)).toNatClampNeg) v) ∧ (p_L_law_809 N xs K28 PK28 x5 ((f_L_withdrawClaim (xs (x5 + (1 : Int32)).toNatClampNeg) v).1) (f_L_withdrawClaim (xs (x5 + (1 : Int32)).toNatClampNeg) v).2))
set_option maxHeartbeats 4000000 in
set_option maxRecDepth 100000 in
theorem w_L_law_798 {E : gE} {d : Nat} {Q : gO → gS → Prop} (nf : Nat) (N : Nat) (xs : Nat → Int32) (hN : gva E 201 = N) (hxs : gxs E = xs) (hd : 16 ≤ d) (K28 : Int32 → gV → Int32 × gV)  (PK28 : Int32 → gV → Prop)  (hK28 : ∀ (x5 : Int32) (v : gV), PK28 x5 v → gqIV Q (K28 x5 v) → gG E m_L_law d Q (322 * nf) (2566 * nf) (rS v) 28 [(0, .ref (gva E 200)), (1, .ref (gX E + 0)), (2, .ref (gX E + 559)), (3, .ref (gX E + 570)), (4, .ref (gX E + 571)), (5, .int x5)] [])  (x5 : Int32) (v : gV) (hp : p_L_law_798 N xs K28 PK28 x5 v) (hQ : gqIV Q (f_L_law_798 N xs K28 x5 v)) : gG E m_L_law d Q (322 * nf + 2) (2566 * nf + 12) (rS v) 798 [(0, .ref (gva E 200)), (1, .ref (gX E + 0)), (2, .ref (gX E + 559)), (3, .ref (gX E + 570)), (4, .ref (gX E + 571)), (5, .int x5)] [] := by
  refine g_aload_n 1 dL_law_798 rfl ?_
  refine g_aload_n 0 dL_law_799 rfl ?_
  refine g_iload 5 dL_law_800 rfl ?_
  refine g_iconst dL_law_802 (1 : Int32) (by decide) ?_
  refine g_iadd dL_law_803 ?_
  obtain ⟨h83, hp⟩ := hp
  refine g_sld hN hxs h83 dL_law_804 ?_
  refine g_aload_n 3 dL_law_805 rfl ?_
  obtain ⟨h84, hp⟩ := hp
  refine g_callT (rest := []) s_L_218 rfl (c_L_withdrawClaim (E := E) (d := d - 1)   (by omega) (xs (x5 + (1 : Int32)).toNatClampNeg) v h84) cqn rfl rfl (Nat.le_of_ble_eq_true rfl) (by omega) (by omega) (by omega) dL_law_806 (adV ?_)
  refine g_room (k' := (322 * nf + 0)) (n' := (2566 * nf + 0)) (by omega) (by omega) ?_
  exact w_L_law_809 nf N xs hN hxs hd K28 PK28 hK28 x5 ((f_L_withdrawClaim (xs (x5 + (1 : Int32)).toNatClampNeg) v).1) (f_L_withdrawClaim (xs (x5 + (1 : Int32)).toNatClampNeg) v).2 hp hQ
def f_L_law_931 (N : Nat) (xs : Nat → Int32) (K28 : Int32 → gV → Int32 × gV)  (x5 : Int32) (v : gV) : Int32 × gV := f_L_law_3401 N xs K28 x5 v
def p_L_law_931 (N : Nat) (xs : Nat → Int32) (K28 : Int32 → gV → Int32 × gV)  (PK28 : Int32 → gV → Prop)  (x5 : Int32) (v : gV) : Prop := p_L_law_3401 N xs K28 PK28 x5 v
set_option maxHeartbeats 4000000 in
set_option maxRecDepth 100000 in
theorem w_L_law_931 {E : gE} {d : Nat} {Q : gO → gS → Prop} (nf : Nat) (N : Nat) (xs : Nat → Int32) (hN : gva E 201 = N) (hxs : gxs E = xs) (hd : 16 ≤ d) (K28 : Int32 → gV → Int32 × gV)  (PK28 : Int32 → gV → Prop)  (hK28 : ∀ (x5 : Int32) (v : gV), PK28 x5 v → gqIV Q (K28 x5 v) → gG E m_L_law d Q (322 * nf) (2566 * nf) (rS v) 28 [(0, .ref (gva E 200)), (1, .ref (gX E + 0)), (2, .ref (gX E + 559)), (3, .ref (gX E + 570)), (4, .ref (gX E + 571)), (5, .int x5)] [])  (x5 : Int32) (v : gV) (hp : p_L_law_931 N xs K28 PK28 x5 v) (hQ : gqIV Q (f_L_law_931 N xs K28 x5 v)) : gG E m_L_law d Q (322 * nf + 0) (2566 * nf + 0) (rS v) 931 [(0, .ref (gva E 200)), (1, .ref (gX E + 0)), (2, .ref (gX E + 559)), (3, .ref (gX E + 570)), (4, .ref (gX E + 571)), (5, .int x5)] [] := by
  refine g_goto 3401 dL_law_931 (by decide) ?_
  refine g_room (k' := (322 * nf + 0)) (n' := (2566 * nf + 0)) (by omega) (by omega) ?_
  exact w_L_law_3401 nf N xs hN hxs hd K28 PK28 hK28 x5 v hp hQ
def f_L_law_901 (N : Nat) (xs : Nat → Int32) (K28 : Int32 → gV → Int32 × gV)  (x5 : Int32) (x6 : Int32) (s0 : Int32) (v : gV) : Int32 × gV := if (f_X12_thrown  v) = x6 then (if x6 = 0 then (if (lg_cmp (v.2.1 570 (0 : Int32).toNatClampNeg) s0.toInt64) = 0 then (f_L_law_931 N xs K28 x5 v) else (((0 : Int32), v))) else (f_L_law_931 N xs K28 x5 v)) else (((0 : Int32), v))
def p_L_law_901 (N : Nat) (xs : Nat → Int32) (K28 : Int32 → gV → Int32 × gV)  (PK28 : Int32 → gV → Prop)  (x5 : Int32) (x6 : Int32) (s0 : Int32) (v : gV) : Prop := (p_X12_thrown  v) ∧ ((((f_X12_thrown  v) = x6) → (((x6 = 0) → ((((lg_cmp (v.2.1 570 (0 : Int32).toNatClampNeg) s0.toInt64) = 0) → (p_L_law_931 N xs K28 PK28 x5 v)) ∧ (¬ ((lg_cmp (v.2.1 570 (0 : Int32).toNatClampNeg) s0.toInt64) = 0) → (True)))) ∧ (¬ (x6 = 0) → (p_L_law_931 N xs K28 PK28 x5 v)))) ∧ (¬ ((f_X12_thrown  v) = x6) → (True)))
set_option maxHeartbeats 4000000 in
set_option maxRecDepth 100000 in
theorem w_L_law_901 {E : gE} {d : Nat} {Q : gO → gS → Prop} (nf : Nat) (N : Nat) (xs : Nat → Int32) (hN : gva E 201 = N) (hxs : gxs E = xs) (hd : 16 ≤ d) (K28 : Int32 → gV → Int32 × gV)  (PK28 : Int32 → gV → Prop)  (hK28 : ∀ (x5 : Int32) (v : gV), PK28 x5 v → gqIV Q (K28 x5 v) → gG E m_L_law d Q (322 * nf) (2566 * nf) (rS v) 28 [(0, .ref (gva E 200)), (1, .ref (gX E + 0)), (2, .ref (gX E + 559)), (3, .ref (gX E + 570)), (4, .ref (gX E + 571)), (5, .int x5)] [])  (x5 : Int32) (x6 : Int32) (s0 : Int32) (v : gV) (hp : p_L_law_901 N xs K28 PK28 x5 x6 s0 v) (hQ : gqIV Q (f_L_law_901 N xs K28 x5 x6 s0 v)) : gG E m_L_law d Q (322 * nf + 0) (2566 * nf + 0) (rS v) 901 [(0, .ref (gva E 200)), (1, .ref (gX E + 0)), (2, .ref (gX E + 559)), (3, .ref (gX E + 570)), (4, .ref (gX E + 571)), (5, .int x5), (6, .int x6)] [.int s0] := by
  refine g_istore [(7, .int s0), (0, .ref (gva E 200)), (1, .ref (gX E + 0)), (2, .ref (gX E + 559)), (3, .ref (gX E + 570)), (4, .ref (gX E + 571)), (5, .int x5), (6, .int x6)] dL_law_901 (by decide) rfl ?_
  refine g_aload_n 3 dL_law_903 rfl ?_
  obtain ⟨h100, hp⟩ := hp
  refine g_callV (rest := []) s_L_193_X12 rfl (c_X12_thrown (E := E) (d := d - 1)   (by omega)  v h100) (by decide : kd 559 = (0, 9)) (show 559 < 572 by decide) rfl rfl (Nat.le_of_ble_eq_true rfl) (by omega) (by omega) (by omega) dL_law_904 (adV ?_) axN
  refine g_iload 7 dL_law_907 rfl ?_
  refine g_icmp_eq 914 dL_law_909 (by decide) (fun h101 => ?_) (fun h101 => ?_)
  · have hQ := qp (P := gqIV Q) h101 hQ
    have hp := hp.1 h101
    refine g_iload 7 dL_law_914 rfl ?_
    refine g_if_ne 931 dL_law_916 (by decide) (fun h102 => ?_) (fun h102 => ?_)
    · have hQ := qn (P := gqIV Q) h102 hQ
      have hp := hp.2 h102
      refine g_room (k' := (322 * nf + 0)) (n' := (2566 * nf + 0)) (by omega) (by omega) ?_
      refine g_lv (lv' := [(0, .ref (gva E 200)), (1, .ref (gX E + 0)), (2, .ref (gX E + 559)), (3, .ref (gX E + 570)), (4, .ref (gX E + 571)), (5, .int x5)]) [1, 2, 3, 4, 5, 6] rfl ?_
      exact w_L_law_931 nf N xs hN hxs hd K28 PK28 hK28 x5 v hp hQ
    · have hQ := qp (P := gqIV Q) h102 hQ
      have hp := hp.1 h102
      refine g_aload_n 4 dL_law_919 rfl ?_
      refine g_iconst dL_law_920 (0 : Int32) (by decide) ?_
      refine g_lald (by decide : kd 570 = (3, 1)) (show 570 < 572 by decide) (show ¬ (_ ∨ _) by decide) dL_law_921 ?_
      refine g_iload 0 dL_law_922 rfl ?_
      refine g_i2l dL_law_924 ?_
      refine g_lcmp dL_law_925 ?_
      refine g_if_eq 931 dL_law_926 (by decide) (fun h103 => ?_) (fun h103 => ?_)
      · have hQ := qp (P := gqIV Q) h103 hQ
        have hp := hp.1 h103
        refine g_room (k' := (322 * nf + 0)) (n' := (2566 * nf + 0)) (by omega) (by omega) ?_
        refine g_lv (lv' := [(0, .ref (gva E 200)), (1, .ref (gX E + 0)), (2, .ref (gX E + 559)), (3, .ref (gX E + 570)), (4, .ref (gX E + 571)), (5, .int x5)]) [1, 2, 3, 4, 5, 6] rfl ?_
        exact w_L_law_931 nf N xs hN hxs hd K28 PK28 hK28 x5 v hp hQ
      · have hQ := qn (P := gqIV Q) h103 hQ
        have hp := hp.2 h103
        refine g_iconst dL_law_929 (0 : Int32) (by decide) ?_
        exact g_zret rfl rfl dL_law_930 hQ
  · have hQ := qn (P := gqIV Q) h101 hQ
    have hp := hp.2 h101
    refine g_iconst dL_law_912 (0 : Int32) (by decide) ?_
    exact g_zret rfl rfl dL_law_913 hQ
def f_L_law_877 (N : Nat) (xs : Nat → Int32) (K28 : Int32 → gV → Int32 × gV)  (x5 : Int32) (s0 : Int32) (v : gV) : Int32 × gV := f_L_law_901 N xs K28 x5 s0 ((f_X12_addOffer (xs (x5 + (1 : Int32)).toNatClampNeg) (xs (x5 + (2 : Int32)).toNatClampNeg) (xs (x5 + (3 : Int32)).toNatClampNeg) v).1) (f_X12_addOffer (xs (x5 + (1 : Int32)).toNatClampNeg) (xs (x5 + (2 : Int32)).toNatClampNeg) (xs (x5 + (3 : Int32)).toNatClampNeg) v).2
def p_L_law_877 (N : Nat) (xs : Nat → Int32) (K28 : Int32 → gV → Int32 × gV)  (PK28 : Int32 → gV → Prop)  (x5 : Int32) (s0 : Int32) (v : gV) : Prop := (vp_in (x5 + (1 : Int32)) N) ∧ ((vp_in (x5 + (2 : Int32)) N) ∧ ((vp_in (x5 + (3 : Int32)) N) ∧ ((p_X12_addOffer (xs (x5 + (1 : Int32)).toNatClampNeg) (xs (x5 + (2 : Int32)).toNatClampNeg) (xs (x5 + (3 : Int32)).toNatClampNeg) v) ∧ (p_L_law_901 N xs K28 PK28 x5 s0 ((f_X12_addOffer (xs (x5 + (1 : Int32)).toNatClampNeg) (xs (x5 + (2 : Int32)).toNatClampNeg) (xs (x5 + (3 : Int32)).toNatClampNeg) v).1) (f_X12_addOffer (xs (x5 + (1 : Int32)).toNatClampNeg) (xs (x5 + (2 : Int32)).toNatClampNeg) (xs (x5 + (3 : Int32)).toNatClampNeg) v).2))))
set_option maxHeartbeats 4000000 in
set_option maxRecDepth 100000 in
theorem w_L_law_877 {E : gE} {d : Nat} {Q : gO → gS → Prop} (nf : Nat) (N : Nat) (xs : Nat → Int32) (hN : gva E 201 = N) (hxs : gxs E = xs) (hd : 16 ≤ d) (K28 : Int32 → gV → Int32 × gV)  (PK28 : Int32 → gV → Prop)  (hK28 : ∀ (x5 : Int32) (v : gV), PK28 x5 v → gqIV Q (K28 x5 v) → gG E m_L_law d Q (322 * nf) (2566 * nf) (rS v) 28 [(0, .ref (gva E 200)), (1, .ref (gX E + 0)), (2, .ref (gX E + 559)), (3, .ref (gX E + 570)), (4, .ref (gX E + 571)), (5, .int x5)] [])  (x5 : Int32) (s0 : Int32) (v : gV) (hp : p_L_law_877 N xs K28 PK28 x5 s0 v) (hQ : gqIV Q (f_L_law_877 N xs K28 x5 s0 v)) : gG E m_L_law d Q (322 * nf + 0) (2566 * nf + 0) (rS v) 877 [(0, .ref (gva E 200)), (1, .ref (gX E + 0)), (2, .ref (gX E + 559)), (3, .ref (gX E + 570)), (4, .ref (gX E + 571)), (5, .int x5)] [.int s0] := by
  refine g_istore [(6, .int s0), (0, .ref (gva E 200)), (1, .ref (gX E + 0)), (2, .ref (gX E + 559)), (3, .ref (gX E + 570)), (4, .ref (gX E + 571)), (5, .int x5)] dL_law_877 (by decide) rfl ?_
  refine g_aload_n 3 dL_law_879 rfl ?_
  refine g_aload_n 1 dL_law_880 rfl ?_
  refine g_iload 6 dL_law_881 rfl ?_
  refine g_iconst dL_law_883 (1 : Int32) (by decide) ?_
  refine g_iadd dL_law_884 ?_
  obtain ⟨h96, hp⟩ := hp
  refine g_sld hN hxs h96 dL_law_885 ?_
  refine g_aload_n 1 dL_law_886 rfl ?_
  refine g_iload 6 dL_law_887 rfl ?_
  refine g_iconst dL_law_889 (2 : Int32) (by decide) ?_
  refine g_iadd dL_law_890 ?_
  obtain ⟨h97, hp⟩ := hp
  refine g_sld hN hxs h97 dL_law_891 ?_
  refine g_aload_n 1 dL_law_892 rfl ?_
  refine g_iload 6 dL_law_893 rfl ?_
  refine g_iconst dL_law_895 (3 : Int32) (by decide) ?_
  refine g_iadd dL_law_896 ?_
  obtain ⟨h98, hp⟩ := hp
  refine g_sld hN hxs h98 dL_law_897 ?_
  obtain ⟨h99, hp⟩ := hp
  refine g_callV (rest := []) s_L_223_X12 rfl (c_X12_addOffer (E := E) (d := d - 1)   (by omega) (xs (x5 + (1 : Int32)).toNatClampNeg) (xs (x5 + (2 : Int32)).toNatClampNeg) (xs (x5 + (3 : Int32)).toNatClampNeg) v h99) (by decide : kd 559 = (0, 9)) (show 559 < 572 by decide) rfl rfl (Nat.le_of_ble_eq_true rfl) (by omega) (by omega) (by omega) dL_law_898 (adV ?_) axN
  refine g_room (k' := (322 * nf + 0)) (n' := (2566 * nf + 0)) (by omega) (by omega) ?_
  refine g_lv (lv' := [(0, .ref (gva E 200)), (1, .ref (gX E + 0)), (2, .ref (gX E + 559)), (3, .ref (gX E + 570)), (4, .ref (gX E + 571)), (5, .int x5), (6, .int s0)]) [1, 2, 3, 4, 5, 6, 0] rfl ?_
  exact w_L_law_901 nf N xs hN hxs hd K28 PK28 hK28 x5 s0 ((f_X12_addOffer (xs (x5 + (1 : Int32)).toNatClampNeg) (xs (x5 + (2 : Int32)).toNatClampNeg) (xs (x5 + (3 : Int32)).toNatClampNeg) v).1) (f_X12_addOffer (xs (x5 + (1 : Int32)).toNatClampNeg) (xs (x5 + (2 : Int32)).toNatClampNeg) (xs (x5 + (3 : Int32)).toNatClampNeg) v).2 hp hQ
def f_L_law_854 (N : Nat) (xs : Nat → Int32) (K28 : Int32 → gV → Int32 × gV)  (x5 : Int32) (v : gV) : Int32 × gV := f_L_law_877 N xs K28 x5 ((f_L_addOffer (xs (x5 + (1 : Int32)).toNatClampNeg) (xs (x5 + (2 : Int32)).toNatClampNeg) (xs (x5 + (3 : Int32)).toNatClampNeg) v).1) (f_L_addOffer (xs (x5 + (1 : Int32)).toNatClampNeg) (xs (x5 + (2 : Int32)).toNatClampNeg) (xs (x5 + (3 : Int32)).toNatClampNeg) v).2
def p_L_law_854 (N : Nat) (xs : Nat → Int32) (K28 : Int32 → gV → Int32 × gV)  (PK28 : Int32 → gV → Prop)  (x5 : Int32) (v : gV) : Prop := (vp_in (x5 + (1 : Int32)) N) ∧ ((vp_in (x5 + (2 : Int32)) N) ∧ ((vp_in (x5 + (3 : Int32)) N) ∧ ((p_L_addOffer (xs (x5 + (1 : Int32)).toNatClampNeg) (xs (x5 + (2 : Int32)).toNatClampNeg) (xs (x5 + (3 : Int32)).toNatClampNeg) v) ∧ (p_L_law_877 N xs K28 PK28 x5 ((f_L_addOffer (xs (x5 + (1 : Int32)).toNatClampNeg) (xs (x5 + (2 : Int32)).toNatClampNeg) (xs (x5 + (3 : Int32)).toNatClampNeg) v).1) (f_L_addOffer (xs (x5 + (1 : Int32)).toNatClampNeg) (xs (x5 + (2 : Int32)).toNatClampNeg) (xs (x5 + (3 : Int32)).toNatClampNeg) v).2))))
set_option maxHeartbeats 4000000 in
set_option maxRecDepth 100000 in
theorem w_L_law_854 {E : gE} {d : Nat} {Q : gO → gS → Prop} (nf : Nat) (N : Nat) (xs : Nat → Int32) (hN : gva E 201 = N) (hxs : gxs E = xs) (hd : 16 ≤ d) (K28 : Int32 → gV → Int32 × gV)  (PK28 : Int32 → gV → Prop)  (hK28 : ∀ (x5 : Int32) (v : gV), PK28 x5 v → gqIV Q (K28 x5 v) → gG E m_L_law d Q (322 * nf) (2566 * nf) (rS v) 28 [(0, .ref (gva E 200)), (1, .ref (gX E + 0)), (2, .ref (gX E + 559)), (3, .ref (gX E + 570)), (4, .ref (gX E + 571)), (5, .int x5)] [])  (x5 : Int32) (v : gV) (hp : p_L_law_854 N xs K28 PK28 x5 v) (hQ : gqIV Q (f_L_law_854 N xs K28 x5 v)) : gG E m_L_law d Q (322 * nf + 4) (2566 * nf + 24) (rS v) 854 [(0, .ref (gva E 200)), (1, .ref (gX E + 0)), (2, .ref (gX E + 559)), (3, .ref (gX E + 570)), (4, .ref (gX E + 571)), (5, .int x5)] [] := by
  refine g_aload_n 1 dL_law_854 rfl ?_
  refine g_aload_n 0 dL_law_855 rfl ?_
  refine g_iload 5 dL_law_856 rfl ?_
  refine g_iconst dL_law_858 (1 : Int32) (by decide) ?_
  refine g_iadd dL_law_859 ?_
  obtain ⟨h92, hp⟩ := hp
  refine g_sld hN hxs h92 dL_law_860 ?_
  refine g_aload_n 0 dL_law_861 rfl ?_
  refine g_iload 5 dL_law_862 rfl ?_
  refine g_iconst dL_law_864 (2 : Int32) (by decide) ?_
  refine g_iadd dL_law_865 ?_
  obtain ⟨h93, hp⟩ := hp
  refine g_sld hN hxs h93 dL_law_866 ?_
  refine g_aload_n 0 dL_law_867 rfl ?_
  refine g_iload 5 dL_law_868 rfl ?_
  refine g_iconst dL_law_870 (3 : Int32) (by decide) ?_
  refine g_iadd dL_law_871 ?_
  obtain ⟨h94, hp⟩ := hp
  refine g_sld hN hxs h94 dL_law_872 ?_
  refine g_aload_n 3 dL_law_873 rfl ?_
  obtain ⟨h95, hp⟩ := hp
  refine g_callT (rest := []) s_L_221 rfl (c_L_addOffer (E := E) (d := d - 1)   (by omega) (xs (x5 + (1 : Int32)).toNatClampNeg) (xs (x5 + (2 : Int32)).toNatClampNeg) (xs (x5 + (3 : Int32)).toNatClampNeg) v h95) cqn rfl rfl (Nat.le_of_ble_eq_true rfl) (by omega) (by omega) (by omega) dL_law_874 (adV ?_)
  refine g_room (k' := (322 * nf + 0)) (n' := (2566 * nf + 0)) (by omega) (by omega) ?_
  exact w_L_law_877 nf N xs hN hxs hd K28 PK28 hK28 x5 ((f_L_addOffer (xs (x5 + (1 : Int32)).toNatClampNeg) (xs (x5 + (2 : Int32)).toNatClampNeg) (xs (x5 + (3 : Int32)).toNatClampNeg) v).1) (f_L_addOffer (xs (x5 + (1 : Int32)).toNatClampNeg) (xs (x5 + (2 : Int32)).toNatClampNeg) (xs (x5 + (3 : Int32)).toNatClampNeg) v).2 hp hQ
def f_L_law_987 (N : Nat) (xs : Nat → Int32) (K28 : Int32 → gV → Int32 × gV)  (x5 : Int32) (v : gV) : Int32 × gV := f_L_law_3401 N xs K28 x5 v
def p_L_law_987 (N : Nat) (xs : Nat → Int32) (K28 : Int32 → gV → Int32 × gV)  (PK28 : Int32 → gV → Prop)  (x5 : Int32) (v : gV) : Prop := p_L_law_3401 N xs K28 PK28 x5 v
set_option maxHeartbeats 4000000 in
set_option maxRecDepth 100000 in
theorem w_L_law_987 {E : gE} {d : Nat} {Q : gO → gS → Prop} (nf : Nat) (N : Nat) (xs : Nat → Int32) (hN : gva E 201 = N) (hxs : gxs E = xs) (hd : 16 ≤ d) (K28 : Int32 → gV → Int32 × gV)  (PK28 : Int32 → gV → Prop)  (hK28 : ∀ (x5 : Int32) (v : gV), PK28 x5 v → gqIV Q (K28 x5 v) → gG E m_L_law d Q (322 * nf) (2566 * nf) (rS v) 28 [(0, .ref (gva E 200)), (1, .ref (gX E + 0)), (2, .ref (gX E + 559)), (3, .ref (gX E + 570)), (4, .ref (gX E + 571)), (5, .int x5)] [])  (x5 : Int32) (v : gV) (hp : p_L_law_987 N xs K28 PK28 x5 v) (hQ : gqIV Q (f_L_law_987 N xs K28 x5 v)) : gG E m_L_law d Q (322 * nf + 0) (2566 * nf + 0) (rS v) 987 [(0, .ref (gva E 200)), (1, .ref (gX E + 0)), (2, .ref (gX E + 559)), (3, .ref (gX E + 570)), (4, .ref (gX E + 571)), (5, .int x5)] [] := by
  refine g_goto 3401 dL_law_987 (by decide) ?_
  refine g_room (k' := (322 * nf + 0)) (n' := (2566 * nf + 0)) (by omega) (by omega) ?_
  exact w_L_law_3401 nf N xs hN hxs hd K28 PK28 hK28 x5 v hp hQ
def f_L_law_957 (N : Nat) (xs : Nat → Int32) (K28 : Int32 → gV → Int32 × gV)  (x5 : Int32) (x6 : Int32) (s0 : Int32) (v : gV) : Int32 × gV := if (f_X12_thrown  v) = x6 then (if x6 = 0 then (if (lg_cmp (v.2.1 570 (0 : Int32).toNatClampNeg) s0.toInt64) = 0 then (f_L_law_987 N xs K28 x5 v) else (((0 : Int32), v))) else (f_L_law_987 N xs K28 x5 v)) else (((0 : Int32), v))
def p_L_law_957 (N : Nat) (xs : Nat → Int32) (K28 : Int32 → gV → Int32 × gV)  (PK28 : Int32 → gV → Prop)  (x5 : Int32) (x6 : Int32) (s0 : Int32) (v : gV) : Prop := (p_X12_thrown  v) ∧ ((((f_X12_thrown  v) = x6) → (((x6 = 0) → ((((lg_cmp (v.2.1 570 (0 : Int32).toNatClampNeg) s0.toInt64) = 0) → (p_L_law_987 N xs K28 PK28 x5 v)) ∧ (¬ ((lg_cmp (v.2.1 570 (0 : Int32).toNatClampNeg) s0.toInt64) = 0) → (True)))) ∧ (¬ (x6 = 0) → (p_L_law_987 N xs K28 PK28 x5 v)))) ∧ (¬ ((f_X12_thrown  v) = x6) → (True)))
set_option maxHeartbeats 4000000 in
set_option maxRecDepth 100000 in
theorem w_L_law_957 {E : gE} {d : Nat} {Q : gO → gS → Prop} (nf : Nat) (N : Nat) (xs : Nat → Int32) (hN : gva E 201 = N) (hxs : gxs E = xs) (hd : 16 ≤ d) (K28 : Int32 → gV → Int32 × gV)  (PK28 : Int32 → gV → Prop)  (hK28 : ∀ (x5 : Int32) (v : gV), PK28 x5 v → gqIV Q (K28 x5 v) → gG E m_L_law d Q (322 * nf) (2566 * nf) (rS v) 28 [(0, .ref (gva E 200)), (1, .ref (gX E + 0)), (2, .ref (gX E + 559)), (3, .ref (gX E + 570)), (4, .ref (gX E + 571)), (5, .int x5)] [])  (x5 : Int32) (x6 : Int32) (s0 : Int32) (v : gV) (hp : p_L_law_957 N xs K28 PK28 x5 x6 s0 v) (hQ : gqIV Q (f_L_law_957 N xs K28 x5 x6 s0 v)) : gG E m_L_law d Q (322 * nf + 0) (2566 * nf + 0) (rS v) 957 [(0, .ref (gva E 200)), (1, .ref (gX E + 0)), (2, .ref (gX E + 559)), (3, .ref (gX E + 570)), (4, .ref (gX E + 571)), (5, .int x5), (6, .int x6)] [.int s0] := by
  refine g_istore [(7, .int s0), (0, .ref (gva E 200)), (1, .ref (gX E + 0)), (2, .ref (gX E + 559)), (3, .ref (gX E + 570)), (4, .ref (gX E + 571)), (5, .int x5), (6, .int x6)] dL_law_957 (by decide) rfl ?_
  refine g_aload_n 3 dL_law_959 rfl ?_
  obtain ⟨h109, hp⟩ := hp
  refine g_callV (rest := []) s_L_193_X12 rfl (c_X12_thrown (E := E) (d := d - 1)   (by omega)  v h109) (by decide : kd 559 = (0, 9)) (show 559 < 572 by decide) rfl rfl (Nat.le_of_ble_eq_true rfl) (by omega) (by omega) (by omega) dL_law_960 (adV ?_) axN
  refine g_iload 7 dL_law_963 rfl ?_
  refine g_icmp_eq 970 dL_law_965 (by decide) (fun h110 => ?_) (fun h110 => ?_)
  · have hQ := qp (P := gqIV Q) h110 hQ
    have hp := hp.1 h110
    refine g_iload 7 dL_law_970 rfl ?_
    refine g_if_ne 987 dL_law_972 (by decide) (fun h111 => ?_) (fun h111 => ?_)
    · have hQ := qn (P := gqIV Q) h111 hQ
      have hp := hp.2 h111
      refine g_room (k' := (322 * nf + 0)) (n' := (2566 * nf + 0)) (by omega) (by omega) ?_
      refine g_lv (lv' := [(0, .ref (gva E 200)), (1, .ref (gX E + 0)), (2, .ref (gX E + 559)), (3, .ref (gX E + 570)), (4, .ref (gX E + 571)), (5, .int x5)]) [1, 2, 3, 4, 5, 6] rfl ?_
      exact w_L_law_987 nf N xs hN hxs hd K28 PK28 hK28 x5 v hp hQ
    · have hQ := qp (P := gqIV Q) h111 hQ
      have hp := hp.1 h111
      refine g_aload_n 4 dL_law_975 rfl ?_
      refine g_iconst dL_law_976 (0 : Int32) (by decide) ?_
      refine g_lald (by decide : kd 570 = (3, 1)) (show 570 < 572 by decide) (show ¬ (_ ∨ _) by decide) dL_law_977 ?_
      refine g_iload 0 dL_law_978 rfl ?_
      refine g_i2l dL_law_980 ?_
      refine g_lcmp dL_law_981 ?_
      refine g_if_eq 987 dL_law_982 (by decide) (fun h112 => ?_) (fun h112 => ?_)
      · have hQ := qp (P := gqIV Q) h112 hQ
        have hp := hp.1 h112
        refine g_room (k' := (322 * nf + 0)) (n' := (2566 * nf + 0)) (by omega) (by omega) ?_
        refine g_lv (lv' := [(0, .ref (gva E 200)), (1, .ref (gX E + 0)), (2, .ref (gX E + 559)), (3, .ref (gX E + 570)), (4, .ref (gX E + 571)), (5, .int x5)]) [1, 2, 3, 4, 5, 6] rfl ?_
        exact w_L_law_987 nf N xs hN hxs hd K28 PK28 hK28 x5 v hp hQ
      · have hQ := qn (P := gqIV Q) h112 hQ
        have hp := hp.2 h112
        refine g_iconst dL_law_985 (0 : Int32) (by decide) ?_
        exact g_zret rfl rfl dL_law_986 hQ
  · have hQ := qn (P := gqIV Q) h110 hQ
    have hp := hp.2 h110
    refine g_iconst dL_law_968 (0 : Int32) (by decide) ?_
    exact g_zret rfl rfl dL_law_969 hQ
def f_L_law_945 (N : Nat) (xs : Nat → Int32) (K28 : Int32 → gV → Int32 × gV)  (x5 : Int32) (s0 : Int32) (v : gV) : Int32 × gV := f_L_law_957 N xs K28 x5 s0 ((f_X12_dropOffer (xs (x5 + (1 : Int32)).toNatClampNeg) v).1) (f_X12_dropOffer (xs (x5 + (1 : Int32)).toNatClampNeg) v).2
def p_L_law_945 (N : Nat) (xs : Nat → Int32) (K28 : Int32 → gV → Int32 × gV)  (PK28 : Int32 → gV → Prop)  (x5 : Int32) (s0 : Int32) (v : gV) : Prop := (vp_in (x5 + (1 : Int32)) N) ∧ ((p_X12_dropOffer (xs (x5 + (1 : Int32)).toNatClampNeg) v) ∧ (p_L_law_957 N xs K28 PK28 x5 s0 ((f_X12_dropOffer (xs (x5 + (1 : Int32)).toNatClampNeg) v).1) (f_X12_dropOffer (xs (x5 + (1 : Int32)).toNatClampNeg) v).2))
set_option maxHeartbeats 4000000 in
set_option maxRecDepth 100000 in
theorem w_L_law_945 {E : gE} {d : Nat} {Q : gO → gS → Prop} (nf : Nat) (N : Nat) (xs : Nat → Int32) (hN : gva E 201 = N) (hxs : gxs E = xs) (hd : 16 ≤ d) (K28 : Int32 → gV → Int32 × gV)  (PK28 : Int32 → gV → Prop)  (hK28 : ∀ (x5 : Int32) (v : gV), PK28 x5 v → gqIV Q (K28 x5 v) → gG E m_L_law d Q (322 * nf) (2566 * nf) (rS v) 28 [(0, .ref (gva E 200)), (1, .ref (gX E + 0)), (2, .ref (gX E + 559)), (3, .ref (gX E + 570)), (4, .ref (gX E + 571)), (5, .int x5)] [])  (x5 : Int32) (s0 : Int32) (v : gV) (hp : p_L_law_945 N xs K28 PK28 x5 s0 v) (hQ : gqIV Q (f_L_law_945 N xs K28 x5 s0 v)) : gG E m_L_law d Q (322 * nf + 0) (2566 * nf + 0) (rS v) 945 [(0, .ref (gva E 200)), (1, .ref (gX E + 0)), (2, .ref (gX E + 559)), (3, .ref (gX E + 570)), (4, .ref (gX E + 571)), (5, .int x5)] [.int s0] := by
  refine g_istore [(6, .int s0), (0, .ref (gva E 200)), (1, .ref (gX E + 0)), (2, .ref (gX E + 559)), (3, .ref (gX E + 570)), (4, .ref (gX E + 571)), (5, .int x5)] dL_law_945 (by decide) rfl ?_
  refine g_aload_n 3 dL_law_947 rfl ?_
  refine g_aload_n 1 dL_law_948 rfl ?_
  refine g_iload 6 dL_law_949 rfl ?_
  refine g_iconst dL_law_951 (1 : Int32) (by decide) ?_
  refine g_iadd dL_law_952 ?_
  obtain ⟨h107, hp⟩ := hp
  refine g_sld hN hxs h107 dL_law_953 ?_
  obtain ⟨h108, hp⟩ := hp
  refine g_callV (rest := []) s_L_226_X12 rfl (c_X12_dropOffer (E := E) (d := d - 1)   (by omega) (xs (x5 + (1 : Int32)).toNatClampNeg) v h108) (by decide : kd 559 = (0, 9)) (show 559 < 572 by decide) rfl rfl (Nat.le_of_ble_eq_true rfl) (by omega) (by omega) (by omega) dL_law_954 (adV ?_) axN
  refine g_room (k' := (322 * nf + 0)) (n' := (2566 * nf + 0)) (by omega) (by omega) ?_
  refine g_lv (lv' := [(0, .ref (gva E 200)), (1, .ref (gX E + 0)), (2, .ref (gX E + 559)), (3, .ref (gX E + 570)), (4, .ref (gX E + 571)), (5, .int x5), (6, .int s0)]) [1, 2, 3, 4, 5, 6, 0] rfl ?_
  exact w_L_law_957 nf N xs hN hxs hd K28 PK28 hK28 x5 s0 ((f_X12_dropOffer (xs (x5 + (1 : Int32)).toNatClampNeg) v).1) (f_X12_dropOffer (xs (x5 + (1 : Int32)).toNatClampNeg) v).2 hp hQ
def f_L_law_934 (N : Nat) (xs : Nat → Int32) (K28 : Int32 → gV → Int32 × gV)  (x5 : Int32) (v : gV) : Int32 × gV := f_L_law_945 N xs K28 x5 ((f_L_dropOffer (xs (x5 + (1 : Int32)).toNatClampNeg) v).1) (f_L_dropOffer (xs (x5 + (1 : Int32)).toNatClampNeg) v).2
def p_L_law_934 (N : Nat) (xs : Nat → Int32) (K28 : Int32 → gV → Int32 × gV)  (PK28 : Int32 → gV → Prop)  (x5 : Int32) (v : gV) : Prop := (vp_in (x5 + (1 : Int32)) N) ∧ ((p_L_dropOffer (xs (x5 + (1 : Int32)).toNatClampNeg) v) ∧ (p_L_law_945 N xs K28 PK28 x5 ((f_L_dropOffer (xs (x5 + (1 : Int32)).toNatClampNeg) v).1) (f_L_dropOffer (xs (x5 + (1 : Int32)).toNatClampNeg) v).2))
set_option maxHeartbeats 4000000 in
set_option maxRecDepth 100000 in
theorem w_L_law_934 {E : gE} {d : Nat} {Q : gO → gS → Prop} (nf : Nat) (N : Nat) (xs : Nat → Int32) (hN : gva E 201 = N) (hxs : gxs E = xs) (hd : 16 ≤ d) (K28 : Int32 → gV → Int32 × gV)  (PK28 : Int32 → gV → Prop)  (hK28 : ∀ (x5 : Int32) (v : gV), PK28 x5 v → gqIV Q (K28 x5 v) → gG E m_L_law d Q (322 * nf) (2566 * nf) (rS v) 28 [(0, .ref (gva E 200)), (1, .ref (gX E + 0)), (2, .ref (gX E + 559)), (3, .ref (gX E + 570)), (4, .ref (gX E + 571)), (5, .int x5)] [])  (x5 : Int32) (v : gV) (hp : p_L_law_934 N xs K28 PK28 x5 v) (hQ : gqIV Q (f_L_law_934 N xs K28 x5 v)) : gG E m_L_law d Q (322 * nf + 1) (2566 * nf + 6) (rS v) 934 [(0, .ref (gva E 200)), (1, .ref (gX E + 0)), (2, .ref (gX E + 559)), (3, .ref (gX E + 570)), (4, .ref (gX E + 571)), (5, .int x5)] [] := by
  refine g_aload_n 1 dL_law_934 rfl ?_
  refine g_aload_n 0 dL_law_935 rfl ?_
  refine g_iload 5 dL_law_936 rfl ?_
  refine g_iconst dL_law_938 (1 : Int32) (by decide) ?_
  refine g_iadd dL_law_939 ?_
  obtain ⟨h105, hp⟩ := hp
  refine g_sld hN hxs h105 dL_law_940 ?_
  refine g_aload_n 3 dL_law_941 rfl ?_
  obtain ⟨h106, hp⟩ := hp
  refine g_callT (rest := []) s_L_224 rfl (c_L_dropOffer (E := E) (d := d - 1)   (by omega) (xs (x5 + (1 : Int32)).toNatClampNeg) v h106) cqn rfl rfl (Nat.le_of_ble_eq_true rfl) (by omega) (by omega) (by omega) dL_law_942 (adV ?_)
  refine g_room (k' := (322 * nf + 0)) (n' := (2566 * nf + 0)) (by omega) (by omega) ?_
  exact w_L_law_945 nf N xs hN hxs hd K28 PK28 hK28 x5 ((f_L_dropOffer (xs (x5 + (1 : Int32)).toNatClampNeg) v).1) (f_L_dropOffer (xs (x5 + (1 : Int32)).toNatClampNeg) v).2 hp hQ
def f_L_law_1043 (N : Nat) (xs : Nat → Int32) (K28 : Int32 → gV → Int32 × gV)  (x5 : Int32) (v : gV) : Int32 × gV := f_L_law_3401 N xs K28 x5 v
def p_L_law_1043 (N : Nat) (xs : Nat → Int32) (K28 : Int32 → gV → Int32 × gV)  (PK28 : Int32 → gV → Prop)  (x5 : Int32) (v : gV) : Prop := p_L_law_3401 N xs K28 PK28 x5 v
set_option maxHeartbeats 4000000 in
set_option maxRecDepth 100000 in
theorem w_L_law_1043 {E : gE} {d : Nat} {Q : gO → gS → Prop} (nf : Nat) (N : Nat) (xs : Nat → Int32) (hN : gva E 201 = N) (hxs : gxs E = xs) (hd : 16 ≤ d) (K28 : Int32 → gV → Int32 × gV)  (PK28 : Int32 → gV → Prop)  (hK28 : ∀ (x5 : Int32) (v : gV), PK28 x5 v → gqIV Q (K28 x5 v) → gG E m_L_law d Q (322 * nf) (2566 * nf) (rS v) 28 [(0, .ref (gva E 200)), (1, .ref (gX E + 0)), (2, .ref (gX E + 559)), (3, .ref (gX E + 570)), (4, .ref (gX E + 571)), (5, .int x5)] [])  (x5 : Int32) (v : gV) (hp : p_L_law_1043 N xs K28 PK28 x5 v) (hQ : gqIV Q (f_L_law_1043 N xs K28 x5 v)) : gG E m_L_law d Q (322 * nf + 0) (2566 * nf + 0) (rS v) 1043 [(0, .ref (gva E 200)), (1, .ref (gX E + 0)), (2, .ref (gX E + 559)), (3, .ref (gX E + 570)), (4, .ref (gX E + 571)), (5, .int x5)] [] := by
  refine g_goto 3401 dL_law_1043 (by decide) ?_
  refine g_room (k' := (322 * nf + 0)) (n' := (2566 * nf + 0)) (by omega) (by omega) ?_
  exact w_L_law_3401 nf N xs hN hxs hd K28 PK28 hK28 x5 v hp hQ
def f_L_law_1013 (N : Nat) (xs : Nat → Int32) (K28 : Int32 → gV → Int32 × gV)  (x5 : Int32) (x6 : Int32) (s0 : Int32) (v : gV) : Int32 × gV := if (f_X12_thrown  v) = x6 then (if x6 = 0 then (if (lg_cmp (v.2.1 570 (0 : Int32).toNatClampNeg) s0.toInt64) = 0 then (f_L_law_1043 N xs K28 x5 v) else (((0 : Int32), v))) else (f_L_law_1043 N xs K28 x5 v)) else (((0 : Int32), v))
def p_L_law_1013 (N : Nat) (xs : Nat → Int32) (K28 : Int32 → gV → Int32 × gV)  (PK28 : Int32 → gV → Prop)  (x5 : Int32) (x6 : Int32) (s0 : Int32) (v : gV) : Prop := (p_X12_thrown  v) ∧ ((((f_X12_thrown  v) = x6) → (((x6 = 0) → ((((lg_cmp (v.2.1 570 (0 : Int32).toNatClampNeg) s0.toInt64) = 0) → (p_L_law_1043 N xs K28 PK28 x5 v)) ∧ (¬ ((lg_cmp (v.2.1 570 (0 : Int32).toNatClampNeg) s0.toInt64) = 0) → (True)))) ∧ (¬ (x6 = 0) → (p_L_law_1043 N xs K28 PK28 x5 v)))) ∧ (¬ ((f_X12_thrown  v) = x6) → (True)))
set_option maxHeartbeats 4000000 in
set_option maxRecDepth 100000 in
theorem w_L_law_1013 {E : gE} {d : Nat} {Q : gO → gS → Prop} (nf : Nat) (N : Nat) (xs : Nat → Int32) (hN : gva E 201 = N) (hxs : gxs E = xs) (hd : 16 ≤ d) (K28 : Int32 → gV → Int32 × gV)  (PK28 : Int32 → gV → Prop)  (hK28 : ∀ (x5 : Int32) (v : gV), PK28 x5 v → gqIV Q (K28 x5 v) → gG E m_L_law d Q (322 * nf) (2566 * nf) (rS v) 28 [(0, .ref (gva E 200)), (1, .ref (gX E + 0)), (2, .ref (gX E + 559)), (3, .ref (gX E + 570)), (4, .ref (gX E + 571)), (5, .int x5)] [])  (x5 : Int32) (x6 : Int32) (s0 : Int32) (v : gV) (hp : p_L_law_1013 N xs K28 PK28 x5 x6 s0 v) (hQ : gqIV Q (f_L_law_1013 N xs K28 x5 x6 s0 v)) : gG E m_L_law d Q (322 * nf + 0) (2566 * nf + 0) (rS v) 1013 [(0, .ref (gva E 200)), (1, .ref (gX E + 0)), (2, .ref (gX E + 559)), (3, .ref (gX E + 570)), (4, .ref (gX E + 571)), (5, .int x5), (6, .int x6)] [.int s0] := by
  refine g_istore [(7, .int s0), (0, .ref (gva E 200)), (1, .ref (gX E + 0)), (2, .ref (gX E + 559)), (3, .ref (gX E + 570)), (4, .ref (gX E + 571)), (5, .int x5), (6, .int x6)] dL_law_1013 (by decide) rfl ?_
  refine g_aload_n 3 dL_law_1015 rfl ?_
  obtain ⟨h118, hp⟩ := hp
  refine g_callV (rest := []) s_L_193_X12 rfl (c_X12_thrown (E := E) (d := d - 1)   (by omega)  v h118) (by decide : kd 559 = (0, 9)) (show 559 < 572 by decide) rfl rfl (Nat.le_of_ble_eq_true rfl) (by omega) (by omega) (by omega) dL_law_1016 (adV ?_) axN
  refine g_iload 7 dL_law_1019 rfl ?_
  refine g_icmp_eq 1026 dL_law_1021 (by decide) (fun h119 => ?_) (fun h119 => ?_)
  · have hQ := qp (P := gqIV Q) h119 hQ
    have hp := hp.1 h119
    refine g_iload 7 dL_law_1026 rfl ?_
    refine g_if_ne 1043 dL_law_1028 (by decide) (fun h120 => ?_) (fun h120 => ?_)
    · have hQ := qn (P := gqIV Q) h120 hQ
      have hp := hp.2 h120
      refine g_room (k' := (322 * nf + 0)) (n' := (2566 * nf + 0)) (by omega) (by omega) ?_
      refine g_lv (lv' := [(0, .ref (gva E 200)), (1, .ref (gX E + 0)), (2, .ref (gX E + 559)), (3, .ref (gX E + 570)), (4, .ref (gX E + 571)), (5, .int x5)]) [1, 2, 3, 4, 5, 6] rfl ?_
      exact w_L_law_1043 nf N xs hN hxs hd K28 PK28 hK28 x5 v hp hQ
    · have hQ := qp (P := gqIV Q) h120 hQ
      have hp := hp.1 h120
      refine g_aload_n 4 dL_law_1031 rfl ?_
      refine g_iconst dL_law_1032 (0 : Int32) (by decide) ?_
      refine g_lald (by decide : kd 570 = (3, 1)) (show 570 < 572 by decide) (show ¬ (_ ∨ _) by decide) dL_law_1033 ?_
      refine g_iload 0 dL_law_1034 rfl ?_
      refine g_i2l dL_law_1036 ?_
      refine g_lcmp dL_law_1037 ?_
      refine g_if_eq 1043 dL_law_1038 (by decide) (fun h121 => ?_) (fun h121 => ?_)
      · have hQ := qp (P := gqIV Q) h121 hQ
        have hp := hp.1 h121
        refine g_room (k' := (322 * nf + 0)) (n' := (2566 * nf + 0)) (by omega) (by omega) ?_
        refine g_lv (lv' := [(0, .ref (gva E 200)), (1, .ref (gX E + 0)), (2, .ref (gX E + 559)), (3, .ref (gX E + 570)), (4, .ref (gX E + 571)), (5, .int x5)]) [1, 2, 3, 4, 5, 6] rfl ?_
        exact w_L_law_1043 nf N xs hN hxs hd K28 PK28 hK28 x5 v hp hQ
      · have hQ := qn (P := gqIV Q) h121 hQ
        have hp := hp.2 h121
        refine g_iconst dL_law_1041 (0 : Int32) (by decide) ?_
        exact g_zret rfl rfl dL_law_1042 hQ
  · have hQ := qn (P := gqIV Q) h119 hQ
    have hp := hp.2 h119
    refine g_iconst dL_law_1024 (0 : Int32) (by decide) ?_
    exact g_zret rfl rfl dL_law_1025 hQ
def f_L_law_1001 (N : Nat) (xs : Nat → Int32) (K28 : Int32 → gV → Int32 × gV)  (x5 : Int32) (s0 : Int32) (v : gV) : Int32 × gV := f_L_law_1013 N xs K28 x5 s0 ((f_X12_passDays (xs (x5 + (1 : Int32)).toNatClampNeg) v).1) (f_X12_passDays (xs (x5 + (1 : Int32)).toNatClampNeg) v).2
def p_L_law_1001 (N : Nat) (xs : Nat → Int32) (K28 : Int32 → gV → Int32 × gV)  (PK28 : Int32 → gV → Prop)  (x5 : Int32) (s0 : Int32) (v : gV) : Prop := (vp_in (x5 + (1 : Int32)) N) ∧ ((p_X12_passDays (xs (x5 + (1 : Int32)).toNatClampNeg) v) ∧ (p_L_law_1013 N xs K28 PK28 x5 s0 ((f_X12_passDays (xs (x5 + (1 : Int32)).toNatClampNeg) v).1) (f_X12_passDays (xs (x5 + (1 : Int32)).toNatClampNeg) v).2))
set_option maxHeartbeats 4000000 in
set_option maxRecDepth 100000 in
theorem w_L_law_1001 {E : gE} {d : Nat} {Q : gO → gS → Prop} (nf : Nat) (N : Nat) (xs : Nat → Int32) (hN : gva E 201 = N) (hxs : gxs E = xs) (hd : 16 ≤ d) (K28 : Int32 → gV → Int32 × gV)  (PK28 : Int32 → gV → Prop)  (hK28 : ∀ (x5 : Int32) (v : gV), PK28 x5 v → gqIV Q (K28 x5 v) → gG E m_L_law d Q (322 * nf) (2566 * nf) (rS v) 28 [(0, .ref (gva E 200)), (1, .ref (gX E + 0)), (2, .ref (gX E + 559)), (3, .ref (gX E + 570)), (4, .ref (gX E + 571)), (5, .int x5)] [])  (x5 : Int32) (s0 : Int32) (v : gV) (hp : p_L_law_1001 N xs K28 PK28 x5 s0 v) (hQ : gqIV Q (f_L_law_1001 N xs K28 x5 s0 v)) : gG E m_L_law d Q (322 * nf + 0) (2566 * nf + 0) (rS v) 1001 [(0, .ref (gva E 200)), (1, .ref (gX E + 0)), (2, .ref (gX E + 559)), (3, .ref (gX E + 570)), (4, .ref (gX E + 571)), (5, .int x5)] [.int s0] := by
  refine g_istore [(6, .int s0), (0, .ref (gva E 200)), (1, .ref (gX E + 0)), (2, .ref (gX E + 559)), (3, .ref (gX E + 570)), (4, .ref (gX E + 571)), (5, .int x5)] dL_law_1001 (by decide) rfl ?_
  refine g_aload_n 3 dL_law_1003 rfl ?_
  refine g_aload_n 1 dL_law_1004 rfl ?_
  refine g_iload 6 dL_law_1005 rfl ?_
  refine g_iconst dL_law_1007 (1 : Int32) (by decide) ?_
  refine g_iadd dL_law_1008 ?_
  obtain ⟨h116, hp⟩ := hp
  refine g_sld hN hxs h116 dL_law_1009 ?_
  obtain ⟨h117, hp⟩ := hp
  refine g_callV (rest := []) s_L_229_X12 rfl (c_X12_passDays (E := E) (d := d - 1)   (by omega) (xs (x5 + (1 : Int32)).toNatClampNeg) v h117) (by decide : kd 559 = (0, 9)) (show 559 < 572 by decide) rfl rfl (Nat.le_of_ble_eq_true rfl) (by omega) (by omega) (by omega) dL_law_1010 (adV ?_) axN
  refine g_room (k' := (322 * nf + 0)) (n' := (2566 * nf + 0)) (by omega) (by omega) ?_
  refine g_lv (lv' := [(0, .ref (gva E 200)), (1, .ref (gX E + 0)), (2, .ref (gX E + 559)), (3, .ref (gX E + 570)), (4, .ref (gX E + 571)), (5, .int x5), (6, .int s0)]) [1, 2, 3, 4, 5, 6, 0] rfl ?_
  exact w_L_law_1013 nf N xs hN hxs hd K28 PK28 hK28 x5 s0 ((f_X12_passDays (xs (x5 + (1 : Int32)).toNatClampNeg) v).1) (f_X12_passDays (xs (x5 + (1 : Int32)).toNatClampNeg) v).2 hp hQ
def f_L_law_990 (N : Nat) (xs : Nat → Int32) (K28 : Int32 → gV → Int32 × gV)  (x5 : Int32) (v : gV) : Int32 × gV := f_L_law_1001 N xs K28 x5 ((f_L_passDays (xs (x5 + (1 : Int32)).toNatClampNeg) v).1) (f_L_passDays (xs (x5 + (1 : Int32)).toNatClampNeg) v).2
def p_L_law_990 (N : Nat) (xs : Nat → Int32) (K28 : Int32 → gV → Int32 × gV)  (PK28 : Int32 → gV → Prop)  (x5 : Int32) (v : gV) : Prop := (vp_in (x5 + (1 : Int32)) N) ∧ ((p_L_passDays (xs (x5 + (1 : Int32)).toNatClampNeg) v) ∧ (p_L_law_1001 N xs K28 PK28 x5 ((f_L_passDays (xs (x5 + (1 : Int32)).toNatClampNeg) v).1) (f_L_passDays (xs (x5 + (1 : Int32)).toNatClampNeg) v).2))
set_option maxHeartbeats 4000000 in
set_option maxRecDepth 100000 in
theorem w_L_law_990 {E : gE} {d : Nat} {Q : gO → gS → Prop} (nf : Nat) (N : Nat) (xs : Nat → Int32) (hN : gva E 201 = N) (hxs : gxs E = xs) (hd : 16 ≤ d) (K28 : Int32 → gV → Int32 × gV)  (PK28 : Int32 → gV → Prop)  (hK28 : ∀ (x5 : Int32) (v : gV), PK28 x5 v → gqIV Q (K28 x5 v) → gG E m_L_law d Q (322 * nf) (2566 * nf) (rS v) 28 [(0, .ref (gva E 200)), (1, .ref (gX E + 0)), (2, .ref (gX E + 559)), (3, .ref (gX E + 570)), (4, .ref (gX E + 571)), (5, .int x5)] [])  (x5 : Int32) (v : gV) (hp : p_L_law_990 N xs K28 PK28 x5 v) (hQ : gqIV Q (f_L_law_990 N xs K28 x5 v)) : gG E m_L_law d Q (322 * nf + 1) (2566 * nf + 6) (rS v) 990 [(0, .ref (gva E 200)), (1, .ref (gX E + 0)), (2, .ref (gX E + 559)), (3, .ref (gX E + 570)), (4, .ref (gX E + 571)), (5, .int x5)] [] := by
  refine g_aload_n 1 dL_law_990 rfl ?_
  refine g_aload_n 0 dL_law_991 rfl ?_
  refine g_iload 5 dL_law_992 rfl ?_
  refine g_iconst dL_law_994 (1 : Int32) (by decide) ?_
  refine g_iadd dL_law_995 ?_
  obtain ⟨h114, hp⟩ := hp
  refine g_sld hN hxs h114 dL_law_996 ?_
  refine g_aload_n 3 dL_law_997 rfl ?_
  obtain ⟨h115, hp⟩ := hp
  refine g_callT (rest := []) s_L_227 rfl (c_L_passDays (E := E) (d := d - 1)   (by omega) (xs (x5 + (1 : Int32)).toNatClampNeg) v h115) cqn rfl rfl (Nat.le_of_ble_eq_true rfl) (by omega) (by omega) (by omega) dL_law_998 (adV ?_)
  refine g_room (k' := (322 * nf + 0)) (n' := (2566 * nf + 0)) (by omega) (by omega) ?_
  exact w_L_law_1001 nf N xs hN hxs hd K28 PK28 hK28 x5 ((f_L_passDays (xs (x5 + (1 : Int32)).toNatClampNeg) v).1) (f_L_passDays (xs (x5 + (1 : Int32)).toNatClampNeg) v).2 hp hQ
def f_L_law_1054 (N : Nat) (xs : Nat → Int32) (K28 : Int32 → gV → Int32 × gV)  (x5 : Int32) (s0 : Int32) (s1 : Int32) (v : gV) : Int32 × gV := if s1 = s0 then (f_L_law_3401 N xs K28 x5 v) else (((0 : Int32), v))
def p_L_law_1054 (N : Nat) (xs : Nat → Int32) (K28 : Int32 → gV → Int32 × gV)  (PK28 : Int32 → gV → Prop)  (x5 : Int32) (s0 : Int32) (s1 : Int32) (v : gV) : Prop := ((s1 = s0) → (p_L_law_3401 N xs K28 PK28 x5 v)) ∧ (¬ (s1 = s0) → (True))
set_option maxHeartbeats 4000000 in
set_option maxRecDepth 100000 in
theorem w_L_law_1054 {E : gE} {d : Nat} {Q : gO → gS → Prop} (nf : Nat) (N : Nat) (xs : Nat → Int32) (hN : gva E 201 = N) (hxs : gxs E = xs) (hd : 16 ≤ d) (K28 : Int32 → gV → Int32 × gV)  (PK28 : Int32 → gV → Prop)  (hK28 : ∀ (x5 : Int32) (v : gV), PK28 x5 v → gqIV Q (K28 x5 v) → gG E m_L_law d Q (322 * nf) (2566 * nf) (rS v) 28 [(0, .ref (gva E 200)), (1, .ref (gX E + 0)), (2, .ref (gX E + 559)), (3, .ref (gX E + 570)), (4, .ref (gX E + 571)), (5, .int x5)] [])  (x5 : Int32) (s0 : Int32) (s1 : Int32) (v : gV) (hp : p_L_law_1054 N xs K28 PK28 x5 s0 s1 v) (hQ : gqIV Q (f_L_law_1054 N xs K28 x5 s0 s1 v)) : gG E m_L_law d Q (322 * nf + 0) (2566 * nf + 0) (rS v) 1054 [(0, .ref (gva E 200)), (1, .ref (gX E + 0)), (2, .ref (gX E + 559)), (3, .ref (gX E + 570)), (4, .ref (gX E + 571)), (5, .int x5)] [.int s0, .int s1] := by
  refine g_icmp_eq 3401 dL_law_1054 (by decide) (fun h125 => ?_) (fun h125 => ?_)
  · have hQ := qp (P := gqIV Q) h125 hQ
    have hp := hp.1 h125
    refine g_room (k' := (322 * nf + 0)) (n' := (2566 * nf + 0)) (by omega) (by omega) ?_
    exact w_L_law_3401 nf N xs hN hxs hd K28 PK28 hK28 x5 v hp hQ
  · have hQ := qn (P := gqIV Q) h125 hQ
    have hp := hp.2 h125
    refine g_iconst dL_law_1057 (0 : Int32) (by decide) ?_
    exact g_zret rfl rfl dL_law_1058 hQ
def f_L_law_1046 (N : Nat) (xs : Nat → Int32) (K28 : Int32 → gV → Int32 × gV)  (x5 : Int32) (v : gV) : Int32 × gV := f_L_law_1054 N xs K28 x5 ((f_X12_day  v).1) (f_X11_day  v) (f_X12_day  v).2
def p_L_law_1046 (N : Nat) (xs : Nat → Int32) (K28 : Int32 → gV → Int32 × gV)  (PK28 : Int32 → gV → Prop)  (x5 : Int32) (v : gV) : Prop := (p_X11_day  v) ∧ ((p_X12_day  v) ∧ (p_L_law_1054 N xs K28 PK28 x5 ((f_X12_day  v).1) (f_X11_day  v) (f_X12_day  v).2))
set_option maxHeartbeats 4000000 in
set_option maxRecDepth 100000 in
theorem w_L_law_1046 {E : gE} {d : Nat} {Q : gO → gS → Prop} (nf : Nat) (N : Nat) (xs : Nat → Int32) (hN : gva E 201 = N) (hxs : gxs E = xs) (hd : 16 ≤ d) (K28 : Int32 → gV → Int32 × gV)  (PK28 : Int32 → gV → Prop)  (hK28 : ∀ (x5 : Int32) (v : gV), PK28 x5 v → gqIV Q (K28 x5 v) → gG E m_L_law d Q (322 * nf) (2566 * nf) (rS v) 28 [(0, .ref (gva E 200)), (1, .ref (gX E + 0)), (2, .ref (gX E + 559)), (3, .ref (gX E + 570)), (4, .ref (gX E + 571)), (5, .int x5)] [])  (x5 : Int32) (v : gV) (hp : p_L_law_1046 N xs K28 PK28 x5 v) (hQ : gqIV Q (f_L_law_1046 N xs K28 x5 v)) : gG E m_L_law d Q (322 * nf + 0) (2566 * nf + 0) (rS v) 1046 [(0, .ref (gva E 200)), (1, .ref (gX E + 0)), (2, .ref (gX E + 559)), (3, .ref (gX E + 570)), (4, .ref (gX E + 571)), (5, .int x5)] [] := by
  refine g_aload_n 1 dL_law_1046 rfl ?_
  obtain ⟨h123, hp⟩ := hp
  refine g_callV (rest := []) s_L_230_X11 rfl (c_X11_day (E := E) (d := d - 1)   (by omega)  v h123) (by decide : kd 0 = (0, 8)) (show 0 < 572 by decide) rfl rfl (Nat.le_of_ble_eq_true rfl) (by omega) (by omega) (by omega) dL_law_1047 (adV ?_) axN
  refine g_aload_n 2 dL_law_1050 rfl ?_
  obtain ⟨h124, hp⟩ := hp
  refine g_callV (rest := [.int ((f_X11_day  v))]) s_L_233_X12 rfl (c_X12_day (E := E) (d := d - 1)   (by omega)  v h124) (by decide : kd 559 = (0, 9)) (show 559 < 572 by decide) rfl rfl (Nat.le_of_ble_eq_true rfl) (by omega) (by omega) (by omega) dL_law_1051 (adV ?_) axN
  refine g_room (k' := (322 * nf + 0)) (n' := (2566 * nf + 0)) (by omega) (by omega) ?_
  exact w_L_law_1054 nf N xs hN hxs hd K28 PK28 hK28 x5 ((f_X12_day  v).1) (f_X11_day  v) (f_X12_day  v).2 hp hQ
def f_L_law_1067 (N : Nat) (xs : Nat → Int32) (K28 : Int32 → gV → Int32 × gV)  (x5 : Int32) (s0 : Int32) (s1 : Int32) (v : gV) : Int32 × gV := if s1 = s0 then (f_L_law_3401 N xs K28 x5 v) else (((0 : Int32), v))
def p_L_law_1067 (N : Nat) (xs : Nat → Int32) (K28 : Int32 → gV → Int32 × gV)  (PK28 : Int32 → gV → Prop)  (x5 : Int32) (s0 : Int32) (s1 : Int32) (v : gV) : Prop := ((s1 = s0) → (p_L_law_3401 N xs K28 PK28 x5 v)) ∧ (¬ (s1 = s0) → (True))
set_option maxHeartbeats 4000000 in
set_option maxRecDepth 100000 in
theorem w_L_law_1067 {E : gE} {d : Nat} {Q : gO → gS → Prop} (nf : Nat) (N : Nat) (xs : Nat → Int32) (hN : gva E 201 = N) (hxs : gxs E = xs) (hd : 16 ≤ d) (K28 : Int32 → gV → Int32 × gV)  (PK28 : Int32 → gV → Prop)  (hK28 : ∀ (x5 : Int32) (v : gV), PK28 x5 v → gqIV Q (K28 x5 v) → gG E m_L_law d Q (322 * nf) (2566 * nf) (rS v) 28 [(0, .ref (gva E 200)), (1, .ref (gX E + 0)), (2, .ref (gX E + 559)), (3, .ref (gX E + 570)), (4, .ref (gX E + 571)), (5, .int x5)] [])  (x5 : Int32) (s0 : Int32) (s1 : Int32) (v : gV) (hp : p_L_law_1067 N xs K28 PK28 x5 s0 s1 v) (hQ : gqIV Q (f_L_law_1067 N xs K28 x5 s0 s1 v)) : gG E m_L_law d Q (322 * nf + 0) (2566 * nf + 0) (rS v) 1067 [(0, .ref (gva E 200)), (1, .ref (gX E + 0)), (2, .ref (gX E + 559)), (3, .ref (gX E + 570)), (4, .ref (gX E + 571)), (5, .int x5)] [.int s0, .int s1] := by
  refine g_icmp_eq 3401 dL_law_1067 (by decide) (fun h129 => ?_) (fun h129 => ?_)
  · have hQ := qp (P := gqIV Q) h129 hQ
    have hp := hp.1 h129
    refine g_room (k' := (322 * nf + 0)) (n' := (2566 * nf + 0)) (by omega) (by omega) ?_
    exact w_L_law_3401 nf N xs hN hxs hd K28 PK28 hK28 x5 v hp hQ
  · have hQ := qn (P := gqIV Q) h129 hQ
    have hp := hp.2 h129
    refine g_iconst dL_law_1070 (0 : Int32) (by decide) ?_
    exact g_zret rfl rfl dL_law_1071 hQ
def f_L_law_1059 (N : Nat) (xs : Nat → Int32) (K28 : Int32 → gV → Int32 × gV)  (x5 : Int32) (v : gV) : Int32 × gV := f_L_law_1067 N xs K28 x5 ((f_X12_cash  v).1) (f_X11_cash  v) (f_X12_cash  v).2
def p_L_law_1059 (N : Nat) (xs : Nat → Int32) (K28 : Int32 → gV → Int32 × gV)  (PK28 : Int32 → gV → Prop)  (x5 : Int32) (v : gV) : Prop := (p_X11_cash  v) ∧ ((p_X12_cash  v) ∧ (p_L_law_1067 N xs K28 PK28 x5 ((f_X12_cash  v).1) (f_X11_cash  v) (f_X12_cash  v).2))
set_option maxHeartbeats 4000000 in
set_option maxRecDepth 100000 in
theorem w_L_law_1059 {E : gE} {d : Nat} {Q : gO → gS → Prop} (nf : Nat) (N : Nat) (xs : Nat → Int32) (hN : gva E 201 = N) (hxs : gxs E = xs) (hd : 16 ≤ d) (K28 : Int32 → gV → Int32 × gV)  (PK28 : Int32 → gV → Prop)  (hK28 : ∀ (x5 : Int32) (v : gV), PK28 x5 v → gqIV Q (K28 x5 v) → gG E m_L_law d Q (322 * nf) (2566 * nf) (rS v) 28 [(0, .ref (gva E 200)), (1, .ref (gX E + 0)), (2, .ref (gX E + 559)), (3, .ref (gX E + 570)), (4, .ref (gX E + 571)), (5, .int x5)] [])  (x5 : Int32) (v : gV) (hp : p_L_law_1059 N xs K28 PK28 x5 v) (hQ : gqIV Q (f_L_law_1059 N xs K28 x5 v)) : gG E m_L_law d Q (322 * nf + 0) (2566 * nf + 0) (rS v) 1059 [(0, .ref (gva E 200)), (1, .ref (gX E + 0)), (2, .ref (gX E + 559)), (3, .ref (gX E + 570)), (4, .ref (gX E + 571)), (5, .int x5)] [] := by
  refine g_aload_n 1 dL_law_1059 rfl ?_
  obtain ⟨h127, hp⟩ := hp
  refine g_callV (rest := []) s_L_234_X11 rfl (c_X11_cash (E := E) (d := d - 1)   (by omega)  v h127) (by decide : kd 0 = (0, 8)) (show 0 < 572 by decide) rfl rfl (Nat.le_of_ble_eq_true rfl) (by omega) (by omega) (by omega) dL_law_1060 (adV ?_) axN
  refine g_aload_n 2 dL_law_1063 rfl ?_
  obtain ⟨h128, hp⟩ := hp
  refine g_callV (rest := [.int ((f_X11_cash  v))]) s_L_237_X12 rfl (c_X12_cash (E := E) (d := d - 1)   (by omega)  v h128) (by decide : kd 559 = (0, 9)) (show 559 < 572 by decide) rfl rfl (Nat.le_of_ble_eq_true rfl) (by omega) (by omega) (by omega) dL_law_1064 (adV ?_) axN
  refine g_room (k' := (322 * nf + 0)) (n' := (2566 * nf + 0)) (by omega) (by omega) ?_
  exact w_L_law_1067 nf N xs hN hxs hd K28 PK28 hK28 x5 ((f_X12_cash  v).1) (f_X11_cash  v) (f_X12_cash  v).2 hp hQ
def f_L_law_1080 (N : Nat) (xs : Nat → Int32) (K28 : Int32 → gV → Int32 × gV)  (x5 : Int32) (s0 : Int32) (s1 : Int32) (v : gV) : Int32 × gV := if s1 = s0 then (f_L_law_3401 N xs K28 x5 v) else (((0 : Int32), v))
def p_L_law_1080 (N : Nat) (xs : Nat → Int32) (K28 : Int32 → gV → Int32 × gV)  (PK28 : Int32 → gV → Prop)  (x5 : Int32) (s0 : Int32) (s1 : Int32) (v : gV) : Prop := ((s1 = s0) → (p_L_law_3401 N xs K28 PK28 x5 v)) ∧ (¬ (s1 = s0) → (True))
set_option maxHeartbeats 4000000 in
set_option maxRecDepth 100000 in
theorem w_L_law_1080 {E : gE} {d : Nat} {Q : gO → gS → Prop} (nf : Nat) (N : Nat) (xs : Nat → Int32) (hN : gva E 201 = N) (hxs : gxs E = xs) (hd : 16 ≤ d) (K28 : Int32 → gV → Int32 × gV)  (PK28 : Int32 → gV → Prop)  (hK28 : ∀ (x5 : Int32) (v : gV), PK28 x5 v → gqIV Q (K28 x5 v) → gG E m_L_law d Q (322 * nf) (2566 * nf) (rS v) 28 [(0, .ref (gva E 200)), (1, .ref (gX E + 0)), (2, .ref (gX E + 559)), (3, .ref (gX E + 570)), (4, .ref (gX E + 571)), (5, .int x5)] [])  (x5 : Int32) (s0 : Int32) (s1 : Int32) (v : gV) (hp : p_L_law_1080 N xs K28 PK28 x5 s0 s1 v) (hQ : gqIV Q (f_L_law_1080 N xs K28 x5 s0 s1 v)) : gG E m_L_law d Q (322 * nf + 0) (2566 * nf + 0) (rS v) 1080 [(0, .ref (gva E 200)), (1, .ref (gX E + 0)), (2, .ref (gX E + 559)), (3, .ref (gX E + 570)), (4, .ref (gX E + 571)), (5, .int x5)] [.int s0, .int s1] := by
  refine g_icmp_eq 3401 dL_law_1080 (by decide) (fun h133 => ?_) (fun h133 => ?_)
  · have hQ := qp (P := gqIV Q) h133 hQ
    have hp := hp.1 h133
    refine g_room (k' := (322 * nf + 0)) (n' := (2566 * nf + 0)) (by omega) (by omega) ?_
    exact w_L_law_3401 nf N xs hN hxs hd K28 PK28 hK28 x5 v hp hQ
  · have hQ := qn (P := gqIV Q) h133 hQ
    have hp := hp.2 h133
    refine g_iconst dL_law_1083 (0 : Int32) (by decide) ?_
    exact g_zret rfl rfl dL_law_1084 hQ
def f_L_law_1072 (N : Nat) (xs : Nat → Int32) (K28 : Int32 → gV → Int32 × gV)  (x5 : Int32) (v : gV) : Int32 × gV := f_L_law_1080 N xs K28 x5 ((f_X12_policyCount  v).1) (f_X11_policyCount  v) (f_X12_policyCount  v).2
def p_L_law_1072 (N : Nat) (xs : Nat → Int32) (K28 : Int32 → gV → Int32 × gV)  (PK28 : Int32 → gV → Prop)  (x5 : Int32) (v : gV) : Prop := (p_X11_policyCount  v) ∧ ((p_X12_policyCount  v) ∧ (p_L_law_1080 N xs K28 PK28 x5 ((f_X12_policyCount  v).1) (f_X11_policyCount  v) (f_X12_policyCount  v).2))
set_option maxHeartbeats 4000000 in
set_option maxRecDepth 100000 in
theorem w_L_law_1072 {E : gE} {d : Nat} {Q : gO → gS → Prop} (nf : Nat) (N : Nat) (xs : Nat → Int32) (hN : gva E 201 = N) (hxs : gxs E = xs) (hd : 16 ≤ d) (K28 : Int32 → gV → Int32 × gV)  (PK28 : Int32 → gV → Prop)  (hK28 : ∀ (x5 : Int32) (v : gV), PK28 x5 v → gqIV Q (K28 x5 v) → gG E m_L_law d Q (322 * nf) (2566 * nf) (rS v) 28 [(0, .ref (gva E 200)), (1, .ref (gX E + 0)), (2, .ref (gX E + 559)), (3, .ref (gX E + 570)), (4, .ref (gX E + 571)), (5, .int x5)] [])  (x5 : Int32) (v : gV) (hp : p_L_law_1072 N xs K28 PK28 x5 v) (hQ : gqIV Q (f_L_law_1072 N xs K28 x5 v)) : gG E m_L_law d Q (322 * nf + 0) (2566 * nf + 0) (rS v) 1072 [(0, .ref (gva E 200)), (1, .ref (gX E + 0)), (2, .ref (gX E + 559)), (3, .ref (gX E + 570)), (4, .ref (gX E + 571)), (5, .int x5)] [] := by
  refine g_aload_n 1 dL_law_1072 rfl ?_
  obtain ⟨h131, hp⟩ := hp
  refine g_callV (rest := []) s_L_238_X11 rfl (c_X11_policyCount (E := E) (d := d - 1)   (by omega)  v h131) (by decide : kd 0 = (0, 8)) (show 0 < 572 by decide) rfl rfl (Nat.le_of_ble_eq_true rfl) (by omega) (by omega) (by omega) dL_law_1073 (adV ?_) axN
  refine g_aload_n 2 dL_law_1076 rfl ?_
  obtain ⟨h132, hp⟩ := hp
  refine g_callV (rest := [.int ((f_X11_policyCount  v))]) s_L_241_X12 rfl (c_X12_policyCount (E := E) (d := d - 1)   (by omega)  v h132) (by decide : kd 559 = (0, 9)) (show 559 < 572 by decide) rfl rfl (Nat.le_of_ble_eq_true rfl) (by omega) (by omega) (by omega) dL_law_1077 (adV ?_) axN
  refine g_room (k' := (322 * nf + 0)) (n' := (2566 * nf + 0)) (by omega) (by omega) ?_
  exact w_L_law_1080 nf N xs hN hxs hd K28 PK28 hK28 x5 ((f_X12_policyCount  v).1) (f_X11_policyCount  v) (f_X12_policyCount  v).2 hp hQ
def f_L_law_1138 (N : Nat) (xs : Nat → Int32) (K28 : Int32 → gV → Int32 × gV)  (x5 : Int32) (v : gV) : Int32 × gV := f_L_law_3401 N xs K28 x5 v
def p_L_law_1138 (N : Nat) (xs : Nat → Int32) (K28 : Int32 → gV → Int32 × gV)  (PK28 : Int32 → gV → Prop)  (x5 : Int32) (v : gV) : Prop := p_L_law_3401 N xs K28 PK28 x5 v
set_option maxHeartbeats 4000000 in
set_option maxRecDepth 100000 in
theorem w_L_law_1138 {E : gE} {d : Nat} {Q : gO → gS → Prop} (nf : Nat) (N : Nat) (xs : Nat → Int32) (hN : gva E 201 = N) (hxs : gxs E = xs) (hd : 16 ≤ d) (K28 : Int32 → gV → Int32 × gV)  (PK28 : Int32 → gV → Prop)  (hK28 : ∀ (x5 : Int32) (v : gV), PK28 x5 v → gqIV Q (K28 x5 v) → gG E m_L_law d Q (322 * nf) (2566 * nf) (rS v) 28 [(0, .ref (gva E 200)), (1, .ref (gX E + 0)), (2, .ref (gX E + 559)), (3, .ref (gX E + 570)), (4, .ref (gX E + 571)), (5, .int x5)] [])  (x5 : Int32) (v : gV) (hp : p_L_law_1138 N xs K28 PK28 x5 v) (hQ : gqIV Q (f_L_law_1138 N xs K28 x5 v)) : gG E m_L_law d Q (322 * nf + 0) (2566 * nf + 0) (rS v) 1138 [(0, .ref (gva E 200)), (1, .ref (gX E + 0)), (2, .ref (gX E + 559)), (3, .ref (gX E + 570)), (4, .ref (gX E + 571)), (5, .int x5)] [] := by
  refine g_goto 3401 dL_law_1138 (by decide) ?_
  refine g_room (k' := (322 * nf + 0)) (n' := (2566 * nf + 0)) (by omega) (by omega) ?_
  exact w_L_law_3401 nf N xs hN hxs hd K28 PK28 hK28 x5 v hp hQ
def f_L_law_1108 (N : Nat) (xs : Nat → Int32) (K28 : Int32 → gV → Int32 × gV)  (x5 : Int32) (x6 : Int32) (s0 : Int32) (v : gV) : Int32 × gV := if (f_X12_thrown  v) = x6 then (if x6 = 0 then (if (lg_cmp (v.2.1 570 (0 : Int32).toNatClampNeg) s0.toInt64) = 0 then (f_L_law_1138 N xs K28 x5 v) else (((0 : Int32), v))) else (f_L_law_1138 N xs K28 x5 v)) else (((0 : Int32), v))
def p_L_law_1108 (N : Nat) (xs : Nat → Int32) (K28 : Int32 → gV → Int32 × gV)  (PK28 : Int32 → gV → Prop)  (x5 : Int32) (x6 : Int32) (s0 : Int32) (v : gV) : Prop := (p_X12_thrown  v) ∧ ((((f_X12_thrown  v) = x6) → (((x6 = 0) → ((((lg_cmp (v.2.1 570 (0 : Int32).toNatClampNeg) s0.toInt64) = 0) → (p_L_law_1138 N xs K28 PK28 x5 v)) ∧ (¬ ((lg_cmp (v.2.1 570 (0 : Int32).toNatClampNeg) s0.toInt64) = 0) → (True)))) ∧ (¬ (x6 = 0) → (p_L_law_1138 N xs K28 PK28 x5 v)))) ∧ (¬ ((f_X12_thrown  v) = x6) → (True)))
set_option maxHeartbeats 4000000 in
set_option maxRecDepth 100000 in
theorem w_L_law_1108 {E : gE} {d : Nat} {Q : gO → gS → Prop} (nf : Nat) (N : Nat) (xs : Nat → Int32) (hN : gva E 201 = N) (hxs : gxs E = xs) (hd : 16 ≤ d) (K28 : Int32 → gV → Int32 × gV)  (PK28 : Int32 → gV → Prop)  (hK28 : ∀ (x5 : Int32) (v : gV), PK28 x5 v → gqIV Q (K28 x5 v) → gG E m_L_law d Q (322 * nf) (2566 * nf) (rS v) 28 [(0, .ref (gva E 200)), (1, .ref (gX E + 0)), (2, .ref (gX E + 559)), (3, .ref (gX E + 570)), (4, .ref (gX E + 571)), (5, .int x5)] [])  (x5 : Int32) (x6 : Int32) (s0 : Int32) (v : gV) (hp : p_L_law_1108 N xs K28 PK28 x5 x6 s0 v) (hQ : gqIV Q (f_L_law_1108 N xs K28 x5 x6 s0 v)) : gG E m_L_law d Q (322 * nf + 0) (2566 * nf + 0) (rS v) 1108 [(0, .ref (gva E 200)), (1, .ref (gX E + 0)), (2, .ref (gX E + 559)), (3, .ref (gX E + 570)), (4, .ref (gX E + 571)), (5, .int x5), (6, .int x6)] [.int s0] := by
  refine g_istore [(7, .int s0), (0, .ref (gva E 200)), (1, .ref (gX E + 0)), (2, .ref (gX E + 559)), (3, .ref (gX E + 570)), (4, .ref (gX E + 571)), (5, .int x5), (6, .int x6)] dL_law_1108 (by decide) rfl ?_
  refine g_aload_n 3 dL_law_1110 rfl ?_
  obtain ⟨h139, hp⟩ := hp
  refine g_callV (rest := []) s_L_193_X12 rfl (c_X12_thrown (E := E) (d := d - 1)   (by omega)  v h139) (by decide : kd 559 = (0, 9)) (show 559 < 572 by decide) rfl rfl (Nat.le_of_ble_eq_true rfl) (by omega) (by omega) (by omega) dL_law_1111 (adV ?_) axN
  refine g_iload 7 dL_law_1114 rfl ?_
  refine g_icmp_eq 1121 dL_law_1116 (by decide) (fun h140 => ?_) (fun h140 => ?_)
  · have hQ := qp (P := gqIV Q) h140 hQ
    have hp := hp.1 h140
    refine g_iload 7 dL_law_1121 rfl ?_
    refine g_if_ne 1138 dL_law_1123 (by decide) (fun h141 => ?_) (fun h141 => ?_)
    · have hQ := qn (P := gqIV Q) h141 hQ
      have hp := hp.2 h141
      refine g_room (k' := (322 * nf + 0)) (n' := (2566 * nf + 0)) (by omega) (by omega) ?_
      refine g_lv (lv' := [(0, .ref (gva E 200)), (1, .ref (gX E + 0)), (2, .ref (gX E + 559)), (3, .ref (gX E + 570)), (4, .ref (gX E + 571)), (5, .int x5)]) [1, 2, 3, 4, 5, 6] rfl ?_
      exact w_L_law_1138 nf N xs hN hxs hd K28 PK28 hK28 x5 v hp hQ
    · have hQ := qp (P := gqIV Q) h141 hQ
      have hp := hp.1 h141
      refine g_aload_n 4 dL_law_1126 rfl ?_
      refine g_iconst dL_law_1127 (0 : Int32) (by decide) ?_
      refine g_lald (by decide : kd 570 = (3, 1)) (show 570 < 572 by decide) (show ¬ (_ ∨ _) by decide) dL_law_1128 ?_
      refine g_iload 0 dL_law_1129 rfl ?_
      refine g_i2l dL_law_1131 ?_
      refine g_lcmp dL_law_1132 ?_
      refine g_if_eq 1138 dL_law_1133 (by decide) (fun h142 => ?_) (fun h142 => ?_)
      · have hQ := qp (P := gqIV Q) h142 hQ
        have hp := hp.1 h142
        refine g_room (k' := (322 * nf + 0)) (n' := (2566 * nf + 0)) (by omega) (by omega) ?_
        refine g_lv (lv' := [(0, .ref (gva E 200)), (1, .ref (gX E + 0)), (2, .ref (gX E + 559)), (3, .ref (gX E + 570)), (4, .ref (gX E + 571)), (5, .int x5)]) [1, 2, 3, 4, 5, 6] rfl ?_
        exact w_L_law_1138 nf N xs hN hxs hd K28 PK28 hK28 x5 v hp hQ
      · have hQ := qn (P := gqIV Q) h142 hQ
        have hp := hp.2 h142
        refine g_iconst dL_law_1136 (0 : Int32) (by decide) ?_
        exact g_zret rfl rfl dL_law_1137 hQ
  · have hQ := qn (P := gqIV Q) h140 hQ
    have hp := hp.2 h140
    refine g_iconst dL_law_1119 (0 : Int32) (by decide) ?_
    exact g_zret rfl rfl dL_law_1120 hQ
def f_L_law_1096 (N : Nat) (xs : Nat → Int32) (K28 : Int32 → gV → Int32 × gV)  (x5 : Int32) (s0 : Int32) (v : gV) : Int32 × gV := f_L_law_1108 N xs K28 x5 s0 ((f_X12_policyAt (xs (x5 + (1 : Int32)).toNatClampNeg) v).1) (f_X12_policyAt (xs (x5 + (1 : Int32)).toNatClampNeg) v).2
def p_L_law_1096 (N : Nat) (xs : Nat → Int32) (K28 : Int32 → gV → Int32 × gV)  (PK28 : Int32 → gV → Prop)  (x5 : Int32) (s0 : Int32) (v : gV) : Prop := (vp_in (x5 + (1 : Int32)) N) ∧ ((p_X12_policyAt (xs (x5 + (1 : Int32)).toNatClampNeg) v) ∧ (p_L_law_1108 N xs K28 PK28 x5 s0 ((f_X12_policyAt (xs (x5 + (1 : Int32)).toNatClampNeg) v).1) (f_X12_policyAt (xs (x5 + (1 : Int32)).toNatClampNeg) v).2))
set_option maxHeartbeats 4000000 in
set_option maxRecDepth 100000 in
theorem w_L_law_1096 {E : gE} {d : Nat} {Q : gO → gS → Prop} (nf : Nat) (N : Nat) (xs : Nat → Int32) (hN : gva E 201 = N) (hxs : gxs E = xs) (hd : 16 ≤ d) (K28 : Int32 → gV → Int32 × gV)  (PK28 : Int32 → gV → Prop)  (hK28 : ∀ (x5 : Int32) (v : gV), PK28 x5 v → gqIV Q (K28 x5 v) → gG E m_L_law d Q (322 * nf) (2566 * nf) (rS v) 28 [(0, .ref (gva E 200)), (1, .ref (gX E + 0)), (2, .ref (gX E + 559)), (3, .ref (gX E + 570)), (4, .ref (gX E + 571)), (5, .int x5)] [])  (x5 : Int32) (s0 : Int32) (v : gV) (hp : p_L_law_1096 N xs K28 PK28 x5 s0 v) (hQ : gqIV Q (f_L_law_1096 N xs K28 x5 s0 v)) : gG E m_L_law d Q (322 * nf + 0) (2566 * nf + 0) (rS v) 1096 [(0, .ref (gva E 200)), (1, .ref (gX E + 0)), (2, .ref (gX E + 559)), (3, .ref (gX E + 570)), (4, .ref (gX E + 571)), (5, .int x5)] [.int s0] := by
  refine g_istore [(6, .int s0), (0, .ref (gva E 200)), (1, .ref (gX E + 0)), (2, .ref (gX E + 559)), (3, .ref (gX E + 570)), (4, .ref (gX E + 571)), (5, .int x5)] dL_law_1096 (by decide) rfl ?_
  refine g_aload_n 3 dL_law_1098 rfl ?_
  refine g_aload_n 1 dL_law_1099 rfl ?_
  refine g_iload 6 dL_law_1100 rfl ?_
  refine g_iconst dL_law_1102 (1 : Int32) (by decide) ?_
  refine g_iadd dL_law_1103 ?_
  obtain ⟨h137, hp⟩ := hp
  refine g_sld hN hxs h137 dL_law_1104 ?_
  obtain ⟨h138, hp⟩ := hp
  refine g_callV (rest := []) s_L_244_X12 rfl (c_X12_policyAt (E := E) (d := d - 1)   (by omega) (xs (x5 + (1 : Int32)).toNatClampNeg) v h138) (by decide : kd 559 = (0, 9)) (show 559 < 572 by decide) rfl rfl (Nat.le_of_ble_eq_true rfl) (by omega) (by omega) (by omega) dL_law_1105 (adV ?_) axN
  refine g_room (k' := (322 * nf + 0)) (n' := (2566 * nf + 0)) (by omega) (by omega) ?_
  refine g_lv (lv' := [(0, .ref (gva E 200)), (1, .ref (gX E + 0)), (2, .ref (gX E + 559)), (3, .ref (gX E + 570)), (4, .ref (gX E + 571)), (5, .int x5), (6, .int s0)]) [1, 2, 3, 4, 5, 6, 0] rfl ?_
  exact w_L_law_1108 nf N xs hN hxs hd K28 PK28 hK28 x5 s0 ((f_X12_policyAt (xs (x5 + (1 : Int32)).toNatClampNeg) v).1) (f_X12_policyAt (xs (x5 + (1 : Int32)).toNatClampNeg) v).2 hp hQ
def f_L_law_1085 (N : Nat) (xs : Nat → Int32) (K28 : Int32 → gV → Int32 × gV)  (x5 : Int32) (v : gV) : Int32 × gV := f_L_law_1096 N xs K28 x5 ((f_L_policyAt (xs (x5 + (1 : Int32)).toNatClampNeg) v).1) (f_L_policyAt (xs (x5 + (1 : Int32)).toNatClampNeg) v).2
def p_L_law_1085 (N : Nat) (xs : Nat → Int32) (K28 : Int32 → gV → Int32 × gV)  (PK28 : Int32 → gV → Prop)  (x5 : Int32) (v : gV) : Prop := (vp_in (x5 + (1 : Int32)) N) ∧ ((p_L_policyAt (xs (x5 + (1 : Int32)).toNatClampNeg) v) ∧ (p_L_law_1096 N xs K28 PK28 x5 ((f_L_policyAt (xs (x5 + (1 : Int32)).toNatClampNeg) v).1) (f_L_policyAt (xs (x5 + (1 : Int32)).toNatClampNeg) v).2))
set_option maxHeartbeats 4000000 in
set_option maxRecDepth 100000 in
theorem w_L_law_1085 {E : gE} {d : Nat} {Q : gO → gS → Prop} (nf : Nat) (N : Nat) (xs : Nat → Int32) (hN : gva E 201 = N) (hxs : gxs E = xs) (hd : 16 ≤ d) (K28 : Int32 → gV → Int32 × gV)  (PK28 : Int32 → gV → Prop)  (hK28 : ∀ (x5 : Int32) (v : gV), PK28 x5 v → gqIV Q (K28 x5 v) → gG E m_L_law d Q (322 * nf) (2566 * nf) (rS v) 28 [(0, .ref (gva E 200)), (1, .ref (gX E + 0)), (2, .ref (gX E + 559)), (3, .ref (gX E + 570)), (4, .ref (gX E + 571)), (5, .int x5)] [])  (x5 : Int32) (v : gV) (hp : p_L_law_1085 N xs K28 PK28 x5 v) (hQ : gqIV Q (f_L_law_1085 N xs K28 x5 v)) : gG E m_L_law d Q (322 * nf + 1) (2566 * nf + 6) (rS v) 1085 [(0, .ref (gva E 200)), (1, .ref (gX E + 0)), (2, .ref (gX E + 559)), (3, .ref (gX E + 570)), (4, .ref (gX E + 571)), (5, .int x5)] [] := by
  refine g_aload_n 1 dL_law_1085 rfl ?_
  refine g_aload_n 0 dL_law_1086 rfl ?_
  refine g_iload 5 dL_law_1087 rfl ?_
  refine g_iconst dL_law_1089 (1 : Int32) (by decide) ?_
  refine g_iadd dL_law_1090 ?_
  obtain ⟨h135, hp⟩ := hp
  refine g_sld hN hxs h135 dL_law_1091 ?_
  refine g_aload_n 3 dL_law_1092 rfl ?_
  obtain ⟨h136, hp⟩ := hp
  refine g_callT (rest := []) s_L_242 rfl (c_L_policyAt (E := E) (d := d - 1)   (by omega) (xs (x5 + (1 : Int32)).toNatClampNeg) v h136) cqn rfl rfl (Nat.le_of_ble_eq_true rfl) (by omega) (by omega) (by omega) dL_law_1093 (adV ?_)
  refine g_room (k' := (322 * nf + 0)) (n' := (2566 * nf + 0)) (by omega) (by omega) ?_
  exact w_L_law_1096 nf N xs hN hxs hd K28 PK28 hK28 x5 ((f_L_policyAt (xs (x5 + (1 : Int32)).toNatClampNeg) v).1) (f_L_policyAt (xs (x5 + (1 : Int32)).toNatClampNeg) v).2 hp hQ
def f_L_law_1194 (N : Nat) (xs : Nat → Int32) (K28 : Int32 → gV → Int32 × gV)  (x5 : Int32) (v : gV) : Int32 × gV := f_L_law_3401 N xs K28 x5 v
def p_L_law_1194 (N : Nat) (xs : Nat → Int32) (K28 : Int32 → gV → Int32 × gV)  (PK28 : Int32 → gV → Prop)  (x5 : Int32) (v : gV) : Prop := p_L_law_3401 N xs K28 PK28 x5 v
set_option maxHeartbeats 4000000 in
set_option maxRecDepth 100000 in
theorem w_L_law_1194 {E : gE} {d : Nat} {Q : gO → gS → Prop} (nf : Nat) (N : Nat) (xs : Nat → Int32) (hN : gva E 201 = N) (hxs : gxs E = xs) (hd : 16 ≤ d) (K28 : Int32 → gV → Int32 × gV)  (PK28 : Int32 → gV → Prop)  (hK28 : ∀ (x5 : Int32) (v : gV), PK28 x5 v → gqIV Q (K28 x5 v) → gG E m_L_law d Q (322 * nf) (2566 * nf) (rS v) 28 [(0, .ref (gva E 200)), (1, .ref (gX E + 0)), (2, .ref (gX E + 559)), (3, .ref (gX E + 570)), (4, .ref (gX E + 571)), (5, .int x5)] [])  (x5 : Int32) (v : gV) (hp : p_L_law_1194 N xs K28 PK28 x5 v) (hQ : gqIV Q (f_L_law_1194 N xs K28 x5 v)) : gG E m_L_law d Q (322 * nf + 0) (2566 * nf + 0) (rS v) 1194 [(0, .ref (gva E 200)), (1, .ref (gX E + 0)), (2, .ref (gX E + 559)), (3, .ref (gX E + 570)), (4, .ref (gX E + 571)), (5, .int x5)] [] := by
  refine g_goto 3401 dL_law_1194 (by decide) ?_
  refine g_room (k' := (322 * nf + 0)) (n' := (2566 * nf + 0)) (by omega) (by omega) ?_
  exact w_L_law_3401 nf N xs hN hxs hd K28 PK28 hK28 x5 v hp hQ
def f_L_law_1164 (N : Nat) (xs : Nat → Int32) (K28 : Int32 → gV → Int32 × gV)  (x5 : Int32) (x6 : Int32) (s0 : Int32) (v : gV) : Int32 × gV := if (f_X12_thrown  v) = x6 then (if x6 = 0 then (if (lg_cmp (v.2.1 570 (0 : Int32).toNatClampNeg) s0.toInt64) = 0 then (f_L_law_1194 N xs K28 x5 v) else (((0 : Int32), v))) else (f_L_law_1194 N xs K28 x5 v)) else (((0 : Int32), v))
def p_L_law_1164 (N : Nat) (xs : Nat → Int32) (K28 : Int32 → gV → Int32 × gV)  (PK28 : Int32 → gV → Prop)  (x5 : Int32) (x6 : Int32) (s0 : Int32) (v : gV) : Prop := (p_X12_thrown  v) ∧ ((((f_X12_thrown  v) = x6) → (((x6 = 0) → ((((lg_cmp (v.2.1 570 (0 : Int32).toNatClampNeg) s0.toInt64) = 0) → (p_L_law_1194 N xs K28 PK28 x5 v)) ∧ (¬ ((lg_cmp (v.2.1 570 (0 : Int32).toNatClampNeg) s0.toInt64) = 0) → (True)))) ∧ (¬ (x6 = 0) → (p_L_law_1194 N xs K28 PK28 x5 v)))) ∧ (¬ ((f_X12_thrown  v) = x6) → (True)))
set_option maxHeartbeats 4000000 in
set_option maxRecDepth 100000 in
theorem w_L_law_1164 {E : gE} {d : Nat} {Q : gO → gS → Prop} (nf : Nat) (N : Nat) (xs : Nat → Int32) (hN : gva E 201 = N) (hxs : gxs E = xs) (hd : 16 ≤ d) (K28 : Int32 → gV → Int32 × gV)  (PK28 : Int32 → gV → Prop)  (hK28 : ∀ (x5 : Int32) (v : gV), PK28 x5 v → gqIV Q (K28 x5 v) → gG E m_L_law d Q (322 * nf) (2566 * nf) (rS v) 28 [(0, .ref (gva E 200)), (1, .ref (gX E + 0)), (2, .ref (gX E + 559)), (3, .ref (gX E + 570)), (4, .ref (gX E + 571)), (5, .int x5)] [])  (x5 : Int32) (x6 : Int32) (s0 : Int32) (v : gV) (hp : p_L_law_1164 N xs K28 PK28 x5 x6 s0 v) (hQ : gqIV Q (f_L_law_1164 N xs K28 x5 x6 s0 v)) : gG E m_L_law d Q (322 * nf + 0) (2566 * nf + 0) (rS v) 1164 [(0, .ref (gva E 200)), (1, .ref (gX E + 0)), (2, .ref (gX E + 559)), (3, .ref (gX E + 570)), (4, .ref (gX E + 571)), (5, .int x5), (6, .int x6)] [.int s0] := by
  refine g_istore [(7, .int s0), (0, .ref (gva E 200)), (1, .ref (gX E + 0)), (2, .ref (gX E + 559)), (3, .ref (gX E + 570)), (4, .ref (gX E + 571)), (5, .int x5), (6, .int x6)] dL_law_1164 (by decide) rfl ?_
  refine g_aload_n 3 dL_law_1166 rfl ?_
  obtain ⟨h148, hp⟩ := hp
  refine g_callV (rest := []) s_L_193_X12 rfl (c_X12_thrown (E := E) (d := d - 1)   (by omega)  v h148) (by decide : kd 559 = (0, 9)) (show 559 < 572 by decide) rfl rfl (Nat.le_of_ble_eq_true rfl) (by omega) (by omega) (by omega) dL_law_1167 (adV ?_) axN
  refine g_iload 7 dL_law_1170 rfl ?_
  refine g_icmp_eq 1177 dL_law_1172 (by decide) (fun h149 => ?_) (fun h149 => ?_)
  · have hQ := qp (P := gqIV Q) h149 hQ
    have hp := hp.1 h149
    refine g_iload 7 dL_law_1177 rfl ?_
    refine g_if_ne 1194 dL_law_1179 (by decide) (fun h150 => ?_) (fun h150 => ?_)
    · have hQ := qn (P := gqIV Q) h150 hQ
      have hp := hp.2 h150
      refine g_room (k' := (322 * nf + 0)) (n' := (2566 * nf + 0)) (by omega) (by omega) ?_
      refine g_lv (lv' := [(0, .ref (gva E 200)), (1, .ref (gX E + 0)), (2, .ref (gX E + 559)), (3, .ref (gX E + 570)), (4, .ref (gX E + 571)), (5, .int x5)]) [1, 2, 3, 4, 5, 6] rfl ?_
      exact w_L_law_1194 nf N xs hN hxs hd K28 PK28 hK28 x5 v hp hQ
    · have hQ := qp (P := gqIV Q) h150 hQ
      have hp := hp.1 h150
      refine g_aload_n 4 dL_law_1182 rfl ?_
      refine g_iconst dL_law_1183 (0 : Int32) (by decide) ?_
      refine g_lald (by decide : kd 570 = (3, 1)) (show 570 < 572 by decide) (show ¬ (_ ∨ _) by decide) dL_law_1184 ?_
      refine g_iload 0 dL_law_1185 rfl ?_
      refine g_i2l dL_law_1187 ?_
      refine g_lcmp dL_law_1188 ?_
      refine g_if_eq 1194 dL_law_1189 (by decide) (fun h151 => ?_) (fun h151 => ?_)
      · have hQ := qp (P := gqIV Q) h151 hQ
        have hp := hp.1 h151
        refine g_room (k' := (322 * nf + 0)) (n' := (2566 * nf + 0)) (by omega) (by omega) ?_
        refine g_lv (lv' := [(0, .ref (gva E 200)), (1, .ref (gX E + 0)), (2, .ref (gX E + 559)), (3, .ref (gX E + 570)), (4, .ref (gX E + 571)), (5, .int x5)]) [1, 2, 3, 4, 5, 6] rfl ?_
        exact w_L_law_1194 nf N xs hN hxs hd K28 PK28 hK28 x5 v hp hQ
      · have hQ := qn (P := gqIV Q) h151 hQ
        have hp := hp.2 h151
        refine g_iconst dL_law_1192 (0 : Int32) (by decide) ?_
        exact g_zret rfl rfl dL_law_1193 hQ
  · have hQ := qn (P := gqIV Q) h149 hQ
    have hp := hp.2 h149
    refine g_iconst dL_law_1175 (0 : Int32) (by decide) ?_
    exact g_zret rfl rfl dL_law_1176 hQ
def f_L_law_1152 (N : Nat) (xs : Nat → Int32) (K28 : Int32 → gV → Int32 × gV)  (x5 : Int32) (s0 : Int32) (v : gV) : Int32 × gV := f_L_law_1164 N xs K28 x5 s0 ((f_X12_sumOf (xs (x5 + (1 : Int32)).toNatClampNeg) v).1) (f_X12_sumOf (xs (x5 + (1 : Int32)).toNatClampNeg) v).2
def p_L_law_1152 (N : Nat) (xs : Nat → Int32) (K28 : Int32 → gV → Int32 × gV)  (PK28 : Int32 → gV → Prop)  (x5 : Int32) (s0 : Int32) (v : gV) : Prop := (vp_in (x5 + (1 : Int32)) N) ∧ ((p_X12_sumOf (xs (x5 + (1 : Int32)).toNatClampNeg) v) ∧ (p_L_law_1164 N xs K28 PK28 x5 s0 ((f_X12_sumOf (xs (x5 + (1 : Int32)).toNatClampNeg) v).1) (f_X12_sumOf (xs (x5 + (1 : Int32)).toNatClampNeg) v).2))
set_option maxHeartbeats 4000000 in
set_option maxRecDepth 100000 in
theorem w_L_law_1152 {E : gE} {d : Nat} {Q : gO → gS → Prop} (nf : Nat) (N : Nat) (xs : Nat → Int32) (hN : gva E 201 = N) (hxs : gxs E = xs) (hd : 16 ≤ d) (K28 : Int32 → gV → Int32 × gV)  (PK28 : Int32 → gV → Prop)  (hK28 : ∀ (x5 : Int32) (v : gV), PK28 x5 v → gqIV Q (K28 x5 v) → gG E m_L_law d Q (322 * nf) (2566 * nf) (rS v) 28 [(0, .ref (gva E 200)), (1, .ref (gX E + 0)), (2, .ref (gX E + 559)), (3, .ref (gX E + 570)), (4, .ref (gX E + 571)), (5, .int x5)] [])  (x5 : Int32) (s0 : Int32) (v : gV) (hp : p_L_law_1152 N xs K28 PK28 x5 s0 v) (hQ : gqIV Q (f_L_law_1152 N xs K28 x5 s0 v)) : gG E m_L_law d Q (322 * nf + 0) (2566 * nf + 0) (rS v) 1152 [(0, .ref (gva E 200)), (1, .ref (gX E + 0)), (2, .ref (gX E + 559)), (3, .ref (gX E + 570)), (4, .ref (gX E + 571)), (5, .int x5)] [.int s0] := by
  refine g_istore [(6, .int s0), (0, .ref (gva E 200)), (1, .ref (gX E + 0)), (2, .ref (gX E + 559)), (3, .ref (gX E + 570)), (4, .ref (gX E + 571)), (5, .int x5)] dL_law_1152 (by decide) rfl ?_
  refine g_aload_n 3 dL_law_1154 rfl ?_
  refine g_aload_n 1 dL_law_1155 rfl ?_
  refine g_iload 6 dL_law_1156 rfl ?_
  refine g_iconst dL_law_1158 (1 : Int32) (by decide) ?_
  refine g_iadd dL_law_1159 ?_
  obtain ⟨h146, hp⟩ := hp
  refine g_sld hN hxs h146 dL_law_1160 ?_
  obtain ⟨h147, hp⟩ := hp
  refine g_callV (rest := []) s_L_247_X12 rfl (c_X12_sumOf (E := E) (d := d - 1)   (by omega) (xs (x5 + (1 : Int32)).toNatClampNeg) v h147) (by decide : kd 559 = (0, 9)) (show 559 < 572 by decide) rfl rfl (Nat.le_of_ble_eq_true rfl) (by omega) (by omega) (by omega) dL_law_1161 (adV ?_) axN
  refine g_room (k' := (322 * nf + 0)) (n' := (2566 * nf + 0)) (by omega) (by omega) ?_
  refine g_lv (lv' := [(0, .ref (gva E 200)), (1, .ref (gX E + 0)), (2, .ref (gX E + 559)), (3, .ref (gX E + 570)), (4, .ref (gX E + 571)), (5, .int x5), (6, .int s0)]) [1, 2, 3, 4, 5, 6, 0] rfl ?_
  exact w_L_law_1164 nf N xs hN hxs hd K28 PK28 hK28 x5 s0 ((f_X12_sumOf (xs (x5 + (1 : Int32)).toNatClampNeg) v).1) (f_X12_sumOf (xs (x5 + (1 : Int32)).toNatClampNeg) v).2 hp hQ
def f_L_law_1141 (N : Nat) (xs : Nat → Int32) (K28 : Int32 → gV → Int32 × gV)  (x5 : Int32) (v : gV) : Int32 × gV := f_L_law_1152 N xs K28 x5 ((f_L_sumOf (xs (x5 + (1 : Int32)).toNatClampNeg) v).1) (f_L_sumOf (xs (x5 + (1 : Int32)).toNatClampNeg) v).2
def p_L_law_1141 (N : Nat) (xs : Nat → Int32) (K28 : Int32 → gV → Int32 × gV)  (PK28 : Int32 → gV → Prop)  (x5 : Int32) (v : gV) : Prop := (vp_in (x5 + (1 : Int32)) N) ∧ ((p_L_sumOf (xs (x5 + (1 : Int32)).toNatClampNeg) v) ∧ (p_L_law_1152 N xs K28 PK28 x5 ((f_L_sumOf (xs (x5 + (1 : Int32)).toNatClampNeg) v).1) (f_L_sumOf (xs (x5 + (1 : Int32)).toNatClampNeg) v).2))
set_option maxHeartbeats 4000000 in
set_option maxRecDepth 100000 in
theorem w_L_law_1141 {E : gE} {d : Nat} {Q : gO → gS → Prop} (nf : Nat) (N : Nat) (xs : Nat → Int32) (hN : gva E 201 = N) (hxs : gxs E = xs) (hd : 16 ≤ d) (K28 : Int32 → gV → Int32 × gV)  (PK28 : Int32 → gV → Prop)  (hK28 : ∀ (x5 : Int32) (v : gV), PK28 x5 v → gqIV Q (K28 x5 v) → gG E m_L_law d Q (322 * nf) (2566 * nf) (rS v) 28 [(0, .ref (gva E 200)), (1, .ref (gX E + 0)), (2, .ref (gX E + 559)), (3, .ref (gX E + 570)), (4, .ref (gX E + 571)), (5, .int x5)] [])  (x5 : Int32) (v : gV) (hp : p_L_law_1141 N xs K28 PK28 x5 v) (hQ : gqIV Q (f_L_law_1141 N xs K28 x5 v)) : gG E m_L_law d Q (322 * nf + 1) (2566 * nf + 6) (rS v) 1141 [(0, .ref (gva E 200)), (1, .ref (gX E + 0)), (2, .ref (gX E + 559)), (3, .ref (gX E + 570)), (4, .ref (gX E + 571)), (5, .int x5)] [] := by
  refine g_aload_n 1 dL_law_1141 rfl ?_
  refine g_aload_n 0 dL_law_1142 rfl ?_
  refine g_iload 5 dL_law_1143 rfl ?_
  refine g_iconst dL_law_1145 (1 : Int32) (by decide) ?_
  refine g_iadd dL_law_1146 ?_
  obtain ⟨h144, hp⟩ := hp
  refine g_sld hN hxs h144 dL_law_1147 ?_
  refine g_aload_n 3 dL_law_1148 rfl ?_
  obtain ⟨h145, hp⟩ := hp
  refine g_callT (rest := []) s_L_245 rfl (c_L_sumOf (E := E) (d := d - 1)   (by omega) (xs (x5 + (1 : Int32)).toNatClampNeg) v h145) cqn rfl rfl (Nat.le_of_ble_eq_true rfl) (by omega) (by omega) (by omega) dL_law_1149 (adV ?_)
  refine g_room (k' := (322 * nf + 0)) (n' := (2566 * nf + 0)) (by omega) (by omega) ?_
  exact w_L_law_1152 nf N xs hN hxs hd K28 PK28 hK28 x5 ((f_L_sumOf (xs (x5 + (1 : Int32)).toNatClampNeg) v).1) (f_L_sumOf (xs (x5 + (1 : Int32)).toNatClampNeg) v).2 hp hQ
def f_L_law_1250 (N : Nat) (xs : Nat → Int32) (K28 : Int32 → gV → Int32 × gV)  (x5 : Int32) (v : gV) : Int32 × gV := f_L_law_3401 N xs K28 x5 v
def p_L_law_1250 (N : Nat) (xs : Nat → Int32) (K28 : Int32 → gV → Int32 × gV)  (PK28 : Int32 → gV → Prop)  (x5 : Int32) (v : gV) : Prop := p_L_law_3401 N xs K28 PK28 x5 v
set_option maxHeartbeats 4000000 in
set_option maxRecDepth 100000 in
theorem w_L_law_1250 {E : gE} {d : Nat} {Q : gO → gS → Prop} (nf : Nat) (N : Nat) (xs : Nat → Int32) (hN : gva E 201 = N) (hxs : gxs E = xs) (hd : 16 ≤ d) (K28 : Int32 → gV → Int32 × gV)  (PK28 : Int32 → gV → Prop)  (hK28 : ∀ (x5 : Int32) (v : gV), PK28 x5 v → gqIV Q (K28 x5 v) → gG E m_L_law d Q (322 * nf) (2566 * nf) (rS v) 28 [(0, .ref (gva E 200)), (1, .ref (gX E + 0)), (2, .ref (gX E + 559)), (3, .ref (gX E + 570)), (4, .ref (gX E + 571)), (5, .int x5)] [])  (x5 : Int32) (v : gV) (hp : p_L_law_1250 N xs K28 PK28 x5 v) (hQ : gqIV Q (f_L_law_1250 N xs K28 x5 v)) : gG E m_L_law d Q (322 * nf + 0) (2566 * nf + 0) (rS v) 1250 [(0, .ref (gva E 200)), (1, .ref (gX E + 0)), (2, .ref (gX E + 559)), (3, .ref (gX E + 570)), (4, .ref (gX E + 571)), (5, .int x5)] [] := by
  refine g_goto 3401 dL_law_1250 (by decide) ?_
  refine g_room (k' := (322 * nf + 0)) (n' := (2566 * nf + 0)) (by omega) (by omega) ?_
  exact w_L_law_3401 nf N xs hN hxs hd K28 PK28 hK28 x5 v hp hQ
def f_L_law_1220 (N : Nat) (xs : Nat → Int32) (K28 : Int32 → gV → Int32 × gV)  (x5 : Int32) (x6 : Int32) (s0 : Int32) (v : gV) : Int32 × gV := if (f_X12_thrown  v) = x6 then (if x6 = 0 then (if (lg_cmp (v.2.1 570 (0 : Int32).toNatClampNeg) s0.toInt64) = 0 then (f_L_law_1250 N xs K28 x5 v) else (((0 : Int32), v))) else (f_L_law_1250 N xs K28 x5 v)) else (((0 : Int32), v))
def p_L_law_1220 (N : Nat) (xs : Nat → Int32) (K28 : Int32 → gV → Int32 × gV)  (PK28 : Int32 → gV → Prop)  (x5 : Int32) (x6 : Int32) (s0 : Int32) (v : gV) : Prop := (p_X12_thrown  v) ∧ ((((f_X12_thrown  v) = x6) → (((x6 = 0) → ((((lg_cmp (v.2.1 570 (0 : Int32).toNatClampNeg) s0.toInt64) = 0) → (p_L_law_1250 N xs K28 PK28 x5 v)) ∧ (¬ ((lg_cmp (v.2.1 570 (0 : Int32).toNatClampNeg) s0.toInt64) = 0) → (True)))) ∧ (¬ (x6 = 0) → (p_L_law_1250 N xs K28 PK28 x5 v)))) ∧ (¬ ((f_X12_thrown  v) = x6) → (True)))
set_option maxHeartbeats 4000000 in
set_option maxRecDepth 100000 in
theorem w_L_law_1220 {E : gE} {d : Nat} {Q : gO → gS → Prop} (nf : Nat) (N : Nat) (xs : Nat → Int32) (hN : gva E 201 = N) (hxs : gxs E = xs) (hd : 16 ≤ d) (K28 : Int32 → gV → Int32 × gV)  (PK28 : Int32 → gV → Prop)  (hK28 : ∀ (x5 : Int32) (v : gV), PK28 x5 v → gqIV Q (K28 x5 v) → gG E m_L_law d Q (322 * nf) (2566 * nf) (rS v) 28 [(0, .ref (gva E 200)), (1, .ref (gX E + 0)), (2, .ref (gX E + 559)), (3, .ref (gX E + 570)), (4, .ref (gX E + 571)), (5, .int x5)] [])  (x5 : Int32) (x6 : Int32) (s0 : Int32) (v : gV) (hp : p_L_law_1220 N xs K28 PK28 x5 x6 s0 v) (hQ : gqIV Q (f_L_law_1220 N xs K28 x5 x6 s0 v)) : gG E m_L_law d Q (322 * nf + 0) (2566 * nf + 0) (rS v) 1220 [(0, .ref (gva E 200)), (1, .ref (gX E + 0)), (2, .ref (gX E + 559)), (3, .ref (gX E + 570)), (4, .ref (gX E + 571)), (5, .int x5), (6, .int x6)] [.int s0] := by
  refine g_istore [(7, .int s0), (0, .ref (gva E 200)), (1, .ref (gX E + 0)), (2, .ref (gX E + 559)), (3, .ref (gX E + 570)), (4, .ref (gX E + 571)), (5, .int x5), (6, .int x6)] dL_law_1220 (by decide) rfl ?_
  refine g_aload_n 3 dL_law_1222 rfl ?_
  obtain ⟨h157, hp⟩ := hp
  refine g_callV (rest := []) s_L_193_X12 rfl (c_X12_thrown (E := E) (d := d - 1)   (by omega)  v h157) (by decide : kd 559 = (0, 9)) (show 559 < 572 by decide) rfl rfl (Nat.le_of_ble_eq_true rfl) (by omega) (by omega) (by omega) dL_law_1223 (adV ?_) axN
  refine g_iload 7 dL_law_1226 rfl ?_
  refine g_icmp_eq 1233 dL_law_1228 (by decide) (fun h158 => ?_) (fun h158 => ?_)
  · have hQ := qp (P := gqIV Q) h158 hQ
    have hp := hp.1 h158
    refine g_iload 7 dL_law_1233 rfl ?_
    refine g_if_ne 1250 dL_law_1235 (by decide) (fun h159 => ?_) (fun h159 => ?_)
    · have hQ := qn (P := gqIV Q) h159 hQ
      have hp := hp.2 h159
      refine g_room (k' := (322 * nf + 0)) (n' := (2566 * nf + 0)) (by omega) (by omega) ?_
      refine g_lv (lv' := [(0, .ref (gva E 200)), (1, .ref (gX E + 0)), (2, .ref (gX E + 559)), (3, .ref (gX E + 570)), (4, .ref (gX E + 571)), (5, .int x5)]) [1, 2, 3, 4, 5, 6] rfl ?_
      exact w_L_law_1250 nf N xs hN hxs hd K28 PK28 hK28 x5 v hp hQ
    · have hQ := qp (P := gqIV Q) h159 hQ
      have hp := hp.1 h159
      refine g_aload_n 4 dL_law_1238 rfl ?_
      refine g_iconst dL_law_1239 (0 : Int32) (by decide) ?_
      refine g_lald (by decide : kd 570 = (3, 1)) (show 570 < 572 by decide) (show ¬ (_ ∨ _) by decide) dL_law_1240 ?_
      refine g_iload 0 dL_law_1241 rfl ?_
      refine g_i2l dL_law_1243 ?_
      refine g_lcmp dL_law_1244 ?_
      refine g_if_eq 1250 dL_law_1245 (by decide) (fun h160 => ?_) (fun h160 => ?_)
      · have hQ := qp (P := gqIV Q) h160 hQ
        have hp := hp.1 h160
        refine g_room (k' := (322 * nf + 0)) (n' := (2566 * nf + 0)) (by omega) (by omega) ?_
        refine g_lv (lv' := [(0, .ref (gva E 200)), (1, .ref (gX E + 0)), (2, .ref (gX E + 559)), (3, .ref (gX E + 570)), (4, .ref (gX E + 571)), (5, .int x5)]) [1, 2, 3, 4, 5, 6] rfl ?_
        exact w_L_law_1250 nf N xs hN hxs hd K28 PK28 hK28 x5 v hp hQ
      · have hQ := qn (P := gqIV Q) h160 hQ
        have hp := hp.2 h160
        refine g_iconst dL_law_1248 (0 : Int32) (by decide) ?_
        exact g_zret rfl rfl dL_law_1249 hQ
  · have hQ := qn (P := gqIV Q) h158 hQ
    have hp := hp.2 h158
    refine g_iconst dL_law_1231 (0 : Int32) (by decide) ?_
    exact g_zret rfl rfl dL_law_1232 hQ
def f_L_law_1208 (N : Nat) (xs : Nat → Int32) (K28 : Int32 → gV → Int32 × gV)  (x5 : Int32) (s0 : Int32) (v : gV) : Int32 × gV := f_L_law_1220 N xs K28 x5 s0 ((f_X12_sumLeft (xs (x5 + (1 : Int32)).toNatClampNeg) v).1) (f_X12_sumLeft (xs (x5 + (1 : Int32)).toNatClampNeg) v).2
def p_L_law_1208 (N : Nat) (xs : Nat → Int32) (K28 : Int32 → gV → Int32 × gV)  (PK28 : Int32 → gV → Prop)  (x5 : Int32) (s0 : Int32) (v : gV) : Prop := (vp_in (x5 + (1 : Int32)) N) ∧ ((p_X12_sumLeft (xs (x5 + (1 : Int32)).toNatClampNeg) v) ∧ (p_L_law_1220 N xs K28 PK28 x5 s0 ((f_X12_sumLeft (xs (x5 + (1 : Int32)).toNatClampNeg) v).1) (f_X12_sumLeft (xs (x5 + (1 : Int32)).toNatClampNeg) v).2))
set_option maxHeartbeats 4000000 in
set_option maxRecDepth 100000 in
theorem w_L_law_1208 {E : gE} {d : Nat} {Q : gO → gS → Prop} (nf : Nat) (N : Nat) (xs : Nat → Int32) (hN : gva E 201 = N) (hxs : gxs E = xs) (hd : 16 ≤ d) (K28 : Int32 → gV → Int32 × gV)  (PK28 : Int32 → gV → Prop)  (hK28 : ∀ (x5 : Int32) (v : gV), PK28 x5 v → gqIV Q (K28 x5 v) → gG E m_L_law d Q (322 * nf) (2566 * nf) (rS v) 28 [(0, .ref (gva E 200)), (1, .ref (gX E + 0)), (2, .ref (gX E + 559)), (3, .ref (gX E + 570)), (4, .ref (gX E + 571)), (5, .int x5)] [])  (x5 : Int32) (s0 : Int32) (v : gV) (hp : p_L_law_1208 N xs K28 PK28 x5 s0 v) (hQ : gqIV Q (f_L_law_1208 N xs K28 x5 s0 v)) : gG E m_L_law d Q (322 * nf + 0) (2566 * nf + 0) (rS v) 1208 [(0, .ref (gva E 200)), (1, .ref (gX E + 0)), (2, .ref (gX E + 559)), (3, .ref (gX E + 570)), (4, .ref (gX E + 571)), (5, .int x5)] [.int s0] := by
  refine g_istore [(6, .int s0), (0, .ref (gva E 200)), (1, .ref (gX E + 0)), (2, .ref (gX E + 559)), (3, .ref (gX E + 570)), (4, .ref (gX E + 571)), (5, .int x5)] dL_law_1208 (by decide) rfl ?_
  refine g_aload_n 3 dL_law_1210 rfl ?_
  refine g_aload_n 1 dL_law_1211 rfl ?_
  refine g_iload 6 dL_law_1212 rfl ?_
  refine g_iconst dL_law_1214 (1 : Int32) (by decide) ?_
  refine g_iadd dL_law_1215 ?_
  obtain ⟨h155, hp⟩ := hp
  refine g_sld hN hxs h155 dL_law_1216 ?_
  obtain ⟨h156, hp⟩ := hp
  refine g_callV (rest := []) s_L_250_X12 rfl (c_X12_sumLeft (E := E) (d := d - 1)   (by omega) (xs (x5 + (1 : Int32)).toNatClampNeg) v h156) (by decide : kd 559 = (0, 9)) (show 559 < 572 by decide) rfl rfl (Nat.le_of_ble_eq_true rfl) (by omega) (by omega) (by omega) dL_law_1217 (adV ?_) axN
  refine g_room (k' := (322 * nf + 0)) (n' := (2566 * nf + 0)) (by omega) (by omega) ?_
  refine g_lv (lv' := [(0, .ref (gva E 200)), (1, .ref (gX E + 0)), (2, .ref (gX E + 559)), (3, .ref (gX E + 570)), (4, .ref (gX E + 571)), (5, .int x5), (6, .int s0)]) [1, 2, 3, 4, 5, 6, 0] rfl ?_
  exact w_L_law_1220 nf N xs hN hxs hd K28 PK28 hK28 x5 s0 ((f_X12_sumLeft (xs (x5 + (1 : Int32)).toNatClampNeg) v).1) (f_X12_sumLeft (xs (x5 + (1 : Int32)).toNatClampNeg) v).2 hp hQ
def f_L_law_1197 (N : Nat) (xs : Nat → Int32) (K28 : Int32 → gV → Int32 × gV)  (x5 : Int32) (v : gV) : Int32 × gV := f_L_law_1208 N xs K28 x5 ((f_L_sumLeft (xs (x5 + (1 : Int32)).toNatClampNeg) v).1) (f_L_sumLeft (xs (x5 + (1 : Int32)).toNatClampNeg) v).2
def p_L_law_1197 (N : Nat) (xs : Nat → Int32) (K28 : Int32 → gV → Int32 × gV)  (PK28 : Int32 → gV → Prop)  (x5 : Int32) (v : gV) : Prop := (vp_in (x5 + (1 : Int32)) N) ∧ ((p_L_sumLeft (xs (x5 + (1 : Int32)).toNatClampNeg) v) ∧ (p_L_law_1208 N xs K28 PK28 x5 ((f_L_sumLeft (xs (x5 + (1 : Int32)).toNatClampNeg) v).1) (f_L_sumLeft (xs (x5 + (1 : Int32)).toNatClampNeg) v).2))
set_option maxHeartbeats 4000000 in
set_option maxRecDepth 100000 in
theorem w_L_law_1197 {E : gE} {d : Nat} {Q : gO → gS → Prop} (nf : Nat) (N : Nat) (xs : Nat → Int32) (hN : gva E 201 = N) (hxs : gxs E = xs) (hd : 16 ≤ d) (K28 : Int32 → gV → Int32 × gV)  (PK28 : Int32 → gV → Prop)  (hK28 : ∀ (x5 : Int32) (v : gV), PK28 x5 v → gqIV Q (K28 x5 v) → gG E m_L_law d Q (322 * nf) (2566 * nf) (rS v) 28 [(0, .ref (gva E 200)), (1, .ref (gX E + 0)), (2, .ref (gX E + 559)), (3, .ref (gX E + 570)), (4, .ref (gX E + 571)), (5, .int x5)] [])  (x5 : Int32) (v : gV) (hp : p_L_law_1197 N xs K28 PK28 x5 v) (hQ : gqIV Q (f_L_law_1197 N xs K28 x5 v)) : gG E m_L_law d Q (322 * nf + 1) (2566 * nf + 6) (rS v) 1197 [(0, .ref (gva E 200)), (1, .ref (gX E + 0)), (2, .ref (gX E + 559)), (3, .ref (gX E + 570)), (4, .ref (gX E + 571)), (5, .int x5)] [] := by
  refine g_aload_n 1 dL_law_1197 rfl ?_
  refine g_aload_n 0 dL_law_1198 rfl ?_
  refine g_iload 5 dL_law_1199 rfl ?_
  refine g_iconst dL_law_1201 (1 : Int32) (by decide) ?_
  refine g_iadd dL_law_1202 ?_
  obtain ⟨h153, hp⟩ := hp
  refine g_sld hN hxs h153 dL_law_1203 ?_
  refine g_aload_n 3 dL_law_1204 rfl ?_
  obtain ⟨h154, hp⟩ := hp
  refine g_callT (rest := []) s_L_248 rfl (c_L_sumLeft (E := E) (d := d - 1)   (by omega) (xs (x5 + (1 : Int32)).toNatClampNeg) v h154) cqn rfl rfl (Nat.le_of_ble_eq_true rfl) (by omega) (by omega) (by omega) dL_law_1205 (adV ?_)
  refine g_room (k' := (322 * nf + 0)) (n' := (2566 * nf + 0)) (by omega) (by omega) ?_
  exact w_L_law_1208 nf N xs hN hxs hd K28 PK28 hK28 x5 ((f_L_sumLeft (xs (x5 + (1 : Int32)).toNatClampNeg) v).1) (f_L_sumLeft (xs (x5 + (1 : Int32)).toNatClampNeg) v).2 hp hQ
def f_L_law_1306 (N : Nat) (xs : Nat → Int32) (K28 : Int32 → gV → Int32 × gV)  (x5 : Int32) (v : gV) : Int32 × gV := f_L_law_3401 N xs K28 x5 v
def p_L_law_1306 (N : Nat) (xs : Nat → Int32) (K28 : Int32 → gV → Int32 × gV)  (PK28 : Int32 → gV → Prop)  (x5 : Int32) (v : gV) : Prop := p_L_law_3401 N xs K28 PK28 x5 v
set_option maxHeartbeats 4000000 in
set_option maxRecDepth 100000 in
theorem w_L_law_1306 {E : gE} {d : Nat} {Q : gO → gS → Prop} (nf : Nat) (N : Nat) (xs : Nat → Int32) (hN : gva E 201 = N) (hxs : gxs E = xs) (hd : 16 ≤ d) (K28 : Int32 → gV → Int32 × gV)  (PK28 : Int32 → gV → Prop)  (hK28 : ∀ (x5 : Int32) (v : gV), PK28 x5 v → gqIV Q (K28 x5 v) → gG E m_L_law d Q (322 * nf) (2566 * nf) (rS v) 28 [(0, .ref (gva E 200)), (1, .ref (gX E + 0)), (2, .ref (gX E + 559)), (3, .ref (gX E + 570)), (4, .ref (gX E + 571)), (5, .int x5)] [])  (x5 : Int32) (v : gV) (hp : p_L_law_1306 N xs K28 PK28 x5 v) (hQ : gqIV Q (f_L_law_1306 N xs K28 x5 v)) : gG E m_L_law d Q (322 * nf + 0) (2566 * nf + 0) (rS v) 1306 [(0, .ref (gva E 200)), (1, .ref (gX E + 0)), (2, .ref (gX E + 559)), (3, .ref (gX E + 570)), (4, .ref (gX E + 571)), (5, .int x5)] [] := by
  refine g_goto 3401 dL_law_1306 (by decide) ?_
  refine g_room (k' := (322 * nf + 0)) (n' := (2566 * nf + 0)) (by omega) (by omega) ?_
  exact w_L_law_3401 nf N xs hN hxs hd K28 PK28 hK28 x5 v hp hQ
def f_L_law_1276 (N : Nat) (xs : Nat → Int32) (K28 : Int32 → gV → Int32 × gV)  (x5 : Int32) (x6 : Int32) (s0 : Int32) (v : gV) : Int32 × gV := if (f_X12_thrown  v) = x6 then (if x6 = 0 then (if (lg_cmp (v.2.1 570 (0 : Int32).toNatClampNeg) s0.toInt64) = 0 then (f_L_law_1306 N xs K28 x5 v) else (((0 : Int32), v))) else (f_L_law_1306 N xs K28 x5 v)) else (((0 : Int32), v))
def p_L_law_1276 (N : Nat) (xs : Nat → Int32) (K28 : Int32 → gV → Int32 × gV)  (PK28 : Int32 → gV → Prop)  (x5 : Int32) (x6 : Int32) (s0 : Int32) (v : gV) : Prop := (p_X12_thrown  v) ∧ ((((f_X12_thrown  v) = x6) → (((x6 = 0) → ((((lg_cmp (v.2.1 570 (0 : Int32).toNatClampNeg) s0.toInt64) = 0) → (p_L_law_1306 N xs K28 PK28 x5 v)) ∧ (¬ ((lg_cmp (v.2.1 570 (0 : Int32).toNatClampNeg) s0.toInt64) = 0) → (True)))) ∧ (¬ (x6 = 0) → (p_L_law_1306 N xs K28 PK28 x5 v)))) ∧ (¬ ((f_X12_thrown  v) = x6) → (True)))
set_option maxHeartbeats 4000000 in
set_option maxRecDepth 100000 in
theorem w_L_law_1276 {E : gE} {d : Nat} {Q : gO → gS → Prop} (nf : Nat) (N : Nat) (xs : Nat → Int32) (hN : gva E 201 = N) (hxs : gxs E = xs) (hd : 16 ≤ d) (K28 : Int32 → gV → Int32 × gV)  (PK28 : Int32 → gV → Prop)  (hK28 : ∀ (x5 : Int32) (v : gV), PK28 x5 v → gqIV Q (K28 x5 v) → gG E m_L_law d Q (322 * nf) (2566 * nf) (rS v) 28 [(0, .ref (gva E 200)), (1, .ref (gX E + 0)), (2, .ref (gX E + 559)), (3, .ref (gX E + 570)), (4, .ref (gX E + 571)), (5, .int x5)] [])  (x5 : Int32) (x6 : Int32) (s0 : Int32) (v : gV) (hp : p_L_law_1276 N xs K28 PK28 x5 x6 s0 v) (hQ : gqIV Q (f_L_law_1276 N xs K28 x5 x6 s0 v)) : gG E m_L_law d Q (322 * nf + 0) (2566 * nf + 0) (rS v) 1276 [(0, .ref (gva E 200)), (1, .ref (gX E + 0)), (2, .ref (gX E + 559)), (3, .ref (gX E + 570)), (4, .ref (gX E + 571)), (5, .int x5), (6, .int x6)] [.int s0] := by
  refine g_istore [(7, .int s0), (0, .ref (gva E 200)), (1, .ref (gX E + 0)), (2, .ref (gX E + 559)), (3, .ref (gX E + 570)), (4, .ref (gX E + 571)), (5, .int x5), (6, .int x6)] dL_law_1276 (by decide) rfl ?_
  refine g_aload_n 3 dL_law_1278 rfl ?_
  obtain ⟨h166, hp⟩ := hp
  refine g_callV (rest := []) s_L_193_X12 rfl (c_X12_thrown (E := E) (d := d - 1)   (by omega)  v h166) (by decide : kd 559 = (0, 9)) (show 559 < 572 by decide) rfl rfl (Nat.le_of_ble_eq_true rfl) (by omega) (by omega) (by omega) dL_law_1279 (adV ?_) axN
  refine g_iload 7 dL_law_1282 rfl ?_
  refine g_icmp_eq 1289 dL_law_1284 (by decide) (fun h167 => ?_) (fun h167 => ?_)
  · have hQ := qp (P := gqIV Q) h167 hQ
    have hp := hp.1 h167
    refine g_iload 7 dL_law_1289 rfl ?_
    refine g_if_ne 1306 dL_law_1291 (by decide) (fun h168 => ?_) (fun h168 => ?_)
    · have hQ := qn (P := gqIV Q) h168 hQ
      have hp := hp.2 h168
      refine g_room (k' := (322 * nf + 0)) (n' := (2566 * nf + 0)) (by omega) (by omega) ?_
      refine g_lv (lv' := [(0, .ref (gva E 200)), (1, .ref (gX E + 0)), (2, .ref (gX E + 559)), (3, .ref (gX E + 570)), (4, .ref (gX E + 571)), (5, .int x5)]) [1, 2, 3, 4, 5, 6] rfl ?_
      exact w_L_law_1306 nf N xs hN hxs hd K28 PK28 hK28 x5 v hp hQ
    · have hQ := qp (P := gqIV Q) h168 hQ
      have hp := hp.1 h168
      refine g_aload_n 4 dL_law_1294 rfl ?_
      refine g_iconst dL_law_1295 (0 : Int32) (by decide) ?_
      refine g_lald (by decide : kd 570 = (3, 1)) (show 570 < 572 by decide) (show ¬ (_ ∨ _) by decide) dL_law_1296 ?_
      refine g_iload 0 dL_law_1297 rfl ?_
      refine g_i2l dL_law_1299 ?_
      refine g_lcmp dL_law_1300 ?_
      refine g_if_eq 1306 dL_law_1301 (by decide) (fun h169 => ?_) (fun h169 => ?_)
      · have hQ := qp (P := gqIV Q) h169 hQ
        have hp := hp.1 h169
        refine g_room (k' := (322 * nf + 0)) (n' := (2566 * nf + 0)) (by omega) (by omega) ?_
        refine g_lv (lv' := [(0, .ref (gva E 200)), (1, .ref (gX E + 0)), (2, .ref (gX E + 559)), (3, .ref (gX E + 570)), (4, .ref (gX E + 571)), (5, .int x5)]) [1, 2, 3, 4, 5, 6] rfl ?_
        exact w_L_law_1306 nf N xs hN hxs hd K28 PK28 hK28 x5 v hp hQ
      · have hQ := qn (P := gqIV Q) h169 hQ
        have hp := hp.2 h169
        refine g_iconst dL_law_1304 (0 : Int32) (by decide) ?_
        exact g_zret rfl rfl dL_law_1305 hQ
  · have hQ := qn (P := gqIV Q) h167 hQ
    have hp := hp.2 h167
    refine g_iconst dL_law_1287 (0 : Int32) (by decide) ?_
    exact g_zret rfl rfl dL_law_1288 hQ
def f_L_law_1264 (N : Nat) (xs : Nat → Int32) (K28 : Int32 → gV → Int32 × gV)  (x5 : Int32) (s0 : Int32) (v : gV) : Int32 × gV := f_L_law_1276 N xs K28 x5 s0 ((f_X12_riskOf (xs (x5 + (1 : Int32)).toNatClampNeg) v).1) (f_X12_riskOf (xs (x5 + (1 : Int32)).toNatClampNeg) v).2
def p_L_law_1264 (N : Nat) (xs : Nat → Int32) (K28 : Int32 → gV → Int32 × gV)  (PK28 : Int32 → gV → Prop)  (x5 : Int32) (s0 : Int32) (v : gV) : Prop := (vp_in (x5 + (1 : Int32)) N) ∧ ((p_X12_riskOf (xs (x5 + (1 : Int32)).toNatClampNeg) v) ∧ (p_L_law_1276 N xs K28 PK28 x5 s0 ((f_X12_riskOf (xs (x5 + (1 : Int32)).toNatClampNeg) v).1) (f_X12_riskOf (xs (x5 + (1 : Int32)).toNatClampNeg) v).2))
set_option maxHeartbeats 4000000 in
set_option maxRecDepth 100000 in
theorem w_L_law_1264 {E : gE} {d : Nat} {Q : gO → gS → Prop} (nf : Nat) (N : Nat) (xs : Nat → Int32) (hN : gva E 201 = N) (hxs : gxs E = xs) (hd : 16 ≤ d) (K28 : Int32 → gV → Int32 × gV)  (PK28 : Int32 → gV → Prop)  (hK28 : ∀ (x5 : Int32) (v : gV), PK28 x5 v → gqIV Q (K28 x5 v) → gG E m_L_law d Q (322 * nf) (2566 * nf) (rS v) 28 [(0, .ref (gva E 200)), (1, .ref (gX E + 0)), (2, .ref (gX E + 559)), (3, .ref (gX E + 570)), (4, .ref (gX E + 571)), (5, .int x5)] [])  (x5 : Int32) (s0 : Int32) (v : gV) (hp : p_L_law_1264 N xs K28 PK28 x5 s0 v) (hQ : gqIV Q (f_L_law_1264 N xs K28 x5 s0 v)) : gG E m_L_law d Q (322 * nf + 0) (2566 * nf + 0) (rS v) 1264 [(0, .ref (gva E 200)), (1, .ref (gX E + 0)), (2, .ref (gX E + 559)), (3, .ref (gX E + 570)), (4, .ref (gX E + 571)), (5, .int x5)] [.int s0] := by
  refine g_istore [(6, .int s0), (0, .ref (gva E 200)), (1, .ref (gX E + 0)), (2, .ref (gX E + 559)), (3, .ref (gX E + 570)), (4, .ref (gX E + 571)), (5, .int x5)] dL_law_1264 (by decide) rfl ?_
  refine g_aload_n 3 dL_law_1266 rfl ?_
  refine g_aload_n 1 dL_law_1267 rfl ?_
  refine g_iload 6 dL_law_1268 rfl ?_
  refine g_iconst dL_law_1270 (1 : Int32) (by decide) ?_
  refine g_iadd dL_law_1271 ?_
  obtain ⟨h164, hp⟩ := hp
  refine g_sld hN hxs h164 dL_law_1272 ?_
  obtain ⟨h165, hp⟩ := hp
  refine g_callV (rest := []) s_L_253_X12 rfl (c_X12_riskOf (E := E) (d := d - 1)   (by omega) (xs (x5 + (1 : Int32)).toNatClampNeg) v h165) (by decide : kd 559 = (0, 9)) (show 559 < 572 by decide) rfl rfl (Nat.le_of_ble_eq_true rfl) (by omega) (by omega) (by omega) dL_law_1273 (adV ?_) axN
  refine g_room (k' := (322 * nf + 0)) (n' := (2566 * nf + 0)) (by omega) (by omega) ?_
  refine g_lv (lv' := [(0, .ref (gva E 200)), (1, .ref (gX E + 0)), (2, .ref (gX E + 559)), (3, .ref (gX E + 570)), (4, .ref (gX E + 571)), (5, .int x5), (6, .int s0)]) [1, 2, 3, 4, 5, 6, 0] rfl ?_
  exact w_L_law_1276 nf N xs hN hxs hd K28 PK28 hK28 x5 s0 ((f_X12_riskOf (xs (x5 + (1 : Int32)).toNatClampNeg) v).1) (f_X12_riskOf (xs (x5 + (1 : Int32)).toNatClampNeg) v).2 hp hQ
def f_L_law_1253 (N : Nat) (xs : Nat → Int32) (K28 : Int32 → gV → Int32 × gV)  (x5 : Int32) (v : gV) : Int32 × gV := f_L_law_1264 N xs K28 x5 ((f_L_riskOf (xs (x5 + (1 : Int32)).toNatClampNeg) v).1) (f_L_riskOf (xs (x5 + (1 : Int32)).toNatClampNeg) v).2
def p_L_law_1253 (N : Nat) (xs : Nat → Int32) (K28 : Int32 → gV → Int32 × gV)  (PK28 : Int32 → gV → Prop)  (x5 : Int32) (v : gV) : Prop := (vp_in (x5 + (1 : Int32)) N) ∧ ((p_L_riskOf (xs (x5 + (1 : Int32)).toNatClampNeg) v) ∧ (p_L_law_1264 N xs K28 PK28 x5 ((f_L_riskOf (xs (x5 + (1 : Int32)).toNatClampNeg) v).1) (f_L_riskOf (xs (x5 + (1 : Int32)).toNatClampNeg) v).2))
set_option maxHeartbeats 4000000 in
set_option maxRecDepth 100000 in
theorem w_L_law_1253 {E : gE} {d : Nat} {Q : gO → gS → Prop} (nf : Nat) (N : Nat) (xs : Nat → Int32) (hN : gva E 201 = N) (hxs : gxs E = xs) (hd : 16 ≤ d) (K28 : Int32 → gV → Int32 × gV)  (PK28 : Int32 → gV → Prop)  (hK28 : ∀ (x5 : Int32) (v : gV), PK28 x5 v → gqIV Q (K28 x5 v) → gG E m_L_law d Q (322 * nf) (2566 * nf) (rS v) 28 [(0, .ref (gva E 200)), (1, .ref (gX E + 0)), (2, .ref (gX E + 559)), (3, .ref (gX E + 570)), (4, .ref (gX E + 571)), (5, .int x5)] [])  (x5 : Int32) (v : gV) (hp : p_L_law_1253 N xs K28 PK28 x5 v) (hQ : gqIV Q (f_L_law_1253 N xs K28 x5 v)) : gG E m_L_law d Q (322 * nf + 1) (2566 * nf + 6) (rS v) 1253 [(0, .ref (gva E 200)), (1, .ref (gX E + 0)), (2, .ref (gX E + 559)), (3, .ref (gX E + 570)), (4, .ref (gX E + 571)), (5, .int x5)] [] := by
  refine g_aload_n 1 dL_law_1253 rfl ?_
  refine g_aload_n 0 dL_law_1254 rfl ?_
  refine g_iload 5 dL_law_1255 rfl ?_
  refine g_iconst dL_law_1257 (1 : Int32) (by decide) ?_
  refine g_iadd dL_law_1258 ?_
  obtain ⟨h162, hp⟩ := hp
  refine g_sld hN hxs h162 dL_law_1259 ?_
  refine g_aload_n 3 dL_law_1260 rfl ?_
  obtain ⟨h163, hp⟩ := hp
  refine g_callT (rest := []) s_L_251 rfl (c_L_riskOf (E := E) (d := d - 1)   (by omega) (xs (x5 + (1 : Int32)).toNatClampNeg) v h163) cqn rfl rfl (Nat.le_of_ble_eq_true rfl) (by omega) (by omega) (by omega) dL_law_1261 (adV ?_)
  refine g_room (k' := (322 * nf + 0)) (n' := (2566 * nf + 0)) (by omega) (by omega) ?_
  exact w_L_law_1264 nf N xs hN hxs hd K28 PK28 hK28 x5 ((f_L_riskOf (xs (x5 + (1 : Int32)).toNatClampNeg) v).1) (f_L_riskOf (xs (x5 + (1 : Int32)).toNatClampNeg) v).2 hp hQ
def f_L_law_1362 (N : Nat) (xs : Nat → Int32) (K28 : Int32 → gV → Int32 × gV)  (x5 : Int32) (v : gV) : Int32 × gV := f_L_law_3401 N xs K28 x5 v
def p_L_law_1362 (N : Nat) (xs : Nat → Int32) (K28 : Int32 → gV → Int32 × gV)  (PK28 : Int32 → gV → Prop)  (x5 : Int32) (v : gV) : Prop := p_L_law_3401 N xs K28 PK28 x5 v
set_option maxHeartbeats 4000000 in
set_option maxRecDepth 100000 in
theorem w_L_law_1362 {E : gE} {d : Nat} {Q : gO → gS → Prop} (nf : Nat) (N : Nat) (xs : Nat → Int32) (hN : gva E 201 = N) (hxs : gxs E = xs) (hd : 16 ≤ d) (K28 : Int32 → gV → Int32 × gV)  (PK28 : Int32 → gV → Prop)  (hK28 : ∀ (x5 : Int32) (v : gV), PK28 x5 v → gqIV Q (K28 x5 v) → gG E m_L_law d Q (322 * nf) (2566 * nf) (rS v) 28 [(0, .ref (gva E 200)), (1, .ref (gX E + 0)), (2, .ref (gX E + 559)), (3, .ref (gX E + 570)), (4, .ref (gX E + 571)), (5, .int x5)] [])  (x5 : Int32) (v : gV) (hp : p_L_law_1362 N xs K28 PK28 x5 v) (hQ : gqIV Q (f_L_law_1362 N xs K28 x5 v)) : gG E m_L_law d Q (322 * nf + 0) (2566 * nf + 0) (rS v) 1362 [(0, .ref (gva E 200)), (1, .ref (gX E + 0)), (2, .ref (gX E + 559)), (3, .ref (gX E + 570)), (4, .ref (gX E + 571)), (5, .int x5)] [] := by
  refine g_goto 3401 dL_law_1362 (by decide) ?_
  refine g_room (k' := (322 * nf + 0)) (n' := (2566 * nf + 0)) (by omega) (by omega) ?_
  exact w_L_law_3401 nf N xs hN hxs hd K28 PK28 hK28 x5 v hp hQ
def f_L_law_1332 (N : Nat) (xs : Nat → Int32) (K28 : Int32 → gV → Int32 × gV)  (x5 : Int32) (x6 : Int32) (s0 : Int32) (v : gV) : Int32 × gV := if (f_X12_thrown  v) = x6 then (if x6 = 0 then (if (lg_cmp (v.2.1 570 (0 : Int32).toNatClampNeg) s0.toInt64) = 0 then (f_L_law_1362 N xs K28 x5 v) else (((0 : Int32), v))) else (f_L_law_1362 N xs K28 x5 v)) else (((0 : Int32), v))
def p_L_law_1332 (N : Nat) (xs : Nat → Int32) (K28 : Int32 → gV → Int32 × gV)  (PK28 : Int32 → gV → Prop)  (x5 : Int32) (x6 : Int32) (s0 : Int32) (v : gV) : Prop := (p_X12_thrown  v) ∧ ((((f_X12_thrown  v) = x6) → (((x6 = 0) → ((((lg_cmp (v.2.1 570 (0 : Int32).toNatClampNeg) s0.toInt64) = 0) → (p_L_law_1362 N xs K28 PK28 x5 v)) ∧ (¬ ((lg_cmp (v.2.1 570 (0 : Int32).toNatClampNeg) s0.toInt64) = 0) → (True)))) ∧ (¬ (x6 = 0) → (p_L_law_1362 N xs K28 PK28 x5 v)))) ∧ (¬ ((f_X12_thrown  v) = x6) → (True)))
set_option maxHeartbeats 4000000 in
set_option maxRecDepth 100000 in
theorem w_L_law_1332 {E : gE} {d : Nat} {Q : gO → gS → Prop} (nf : Nat) (N : Nat) (xs : Nat → Int32) (hN : gva E 201 = N) (hxs : gxs E = xs) (hd : 16 ≤ d) (K28 : Int32 → gV → Int32 × gV)  (PK28 : Int32 → gV → Prop)  (hK28 : ∀ (x5 : Int32) (v : gV), PK28 x5 v → gqIV Q (K28 x5 v) → gG E m_L_law d Q (322 * nf) (2566 * nf) (rS v) 28 [(0, .ref (gva E 200)), (1, .ref (gX E + 0)), (2, .ref (gX E + 559)), (3, .ref (gX E + 570)), (4, .ref (gX E + 571)), (5, .int x5)] [])  (x5 : Int32) (x6 : Int32) (s0 : Int32) (v : gV) (hp : p_L_law_1332 N xs K28 PK28 x5 x6 s0 v) (hQ : gqIV Q (f_L_law_1332 N xs K28 x5 x6 s0 v)) : gG E m_L_law d Q (322 * nf + 0) (2566 * nf + 0) (rS v) 1332 [(0, .ref (gva E 200)), (1, .ref (gX E + 0)), (2, .ref (gX E + 559)), (3, .ref (gX E + 570)), (4, .ref (gX E + 571)), (5, .int x5), (6, .int x6)] [.int s0] := by
  refine g_istore [(7, .int s0), (0, .ref (gva E 200)), (1, .ref (gX E + 0)), (2, .ref (gX E + 559)), (3, .ref (gX E + 570)), (4, .ref (gX E + 571)), (5, .int x5), (6, .int x6)] dL_law_1332 (by decide) rfl ?_
  refine g_aload_n 3 dL_law_1334 rfl ?_
  obtain ⟨h175, hp⟩ := hp
  refine g_callV (rest := []) s_L_193_X12 rfl (c_X12_thrown (E := E) (d := d - 1)   (by omega)  v h175) (by decide : kd 559 = (0, 9)) (show 559 < 572 by decide) rfl rfl (Nat.le_of_ble_eq_true rfl) (by omega) (by omega) (by omega) dL_law_1335 (adV ?_) axN
  refine g_iload 7 dL_law_1338 rfl ?_
  refine g_icmp_eq 1345 dL_law_1340 (by decide) (fun h176 => ?_) (fun h176 => ?_)
  · have hQ := qp (P := gqIV Q) h176 hQ
    have hp := hp.1 h176
    refine g_iload 7 dL_law_1345 rfl ?_
    refine g_if_ne 1362 dL_law_1347 (by decide) (fun h177 => ?_) (fun h177 => ?_)
    · have hQ := qn (P := gqIV Q) h177 hQ
      have hp := hp.2 h177
      refine g_room (k' := (322 * nf + 0)) (n' := (2566 * nf + 0)) (by omega) (by omega) ?_
      refine g_lv (lv' := [(0, .ref (gva E 200)), (1, .ref (gX E + 0)), (2, .ref (gX E + 559)), (3, .ref (gX E + 570)), (4, .ref (gX E + 571)), (5, .int x5)]) [1, 2, 3, 4, 5, 6] rfl ?_
      exact w_L_law_1362 nf N xs hN hxs hd K28 PK28 hK28 x5 v hp hQ
    · have hQ := qp (P := gqIV Q) h177 hQ
      have hp := hp.1 h177
      refine g_aload_n 4 dL_law_1350 rfl ?_
      refine g_iconst dL_law_1351 (0 : Int32) (by decide) ?_
      refine g_lald (by decide : kd 570 = (3, 1)) (show 570 < 572 by decide) (show ¬ (_ ∨ _) by decide) dL_law_1352 ?_
      refine g_iload 0 dL_law_1353 rfl ?_
      refine g_i2l dL_law_1355 ?_
      refine g_lcmp dL_law_1356 ?_
      refine g_if_eq 1362 dL_law_1357 (by decide) (fun h178 => ?_) (fun h178 => ?_)
      · have hQ := qp (P := gqIV Q) h178 hQ
        have hp := hp.1 h178
        refine g_room (k' := (322 * nf + 0)) (n' := (2566 * nf + 0)) (by omega) (by omega) ?_
        refine g_lv (lv' := [(0, .ref (gva E 200)), (1, .ref (gX E + 0)), (2, .ref (gX E + 559)), (3, .ref (gX E + 570)), (4, .ref (gX E + 571)), (5, .int x5)]) [1, 2, 3, 4, 5, 6] rfl ?_
        exact w_L_law_1362 nf N xs hN hxs hd K28 PK28 hK28 x5 v hp hQ
      · have hQ := qn (P := gqIV Q) h178 hQ
        have hp := hp.2 h178
        refine g_iconst dL_law_1360 (0 : Int32) (by decide) ?_
        exact g_zret rfl rfl dL_law_1361 hQ
  · have hQ := qn (P := gqIV Q) h176 hQ
    have hp := hp.2 h176
    refine g_iconst dL_law_1343 (0 : Int32) (by decide) ?_
    exact g_zret rfl rfl dL_law_1344 hQ
def f_L_law_1320 (N : Nat) (xs : Nat → Int32) (K28 : Int32 → gV → Int32 × gV)  (x5 : Int32) (s0 : Int32) (v : gV) : Int32 × gV := f_L_law_1332 N xs K28 x5 s0 ((f_X12_premiumOf (xs (x5 + (1 : Int32)).toNatClampNeg) v).1) (f_X12_premiumOf (xs (x5 + (1 : Int32)).toNatClampNeg) v).2
def p_L_law_1320 (N : Nat) (xs : Nat → Int32) (K28 : Int32 → gV → Int32 × gV)  (PK28 : Int32 → gV → Prop)  (x5 : Int32) (s0 : Int32) (v : gV) : Prop := (vp_in (x5 + (1 : Int32)) N) ∧ ((p_X12_premiumOf (xs (x5 + (1 : Int32)).toNatClampNeg) v) ∧ (p_L_law_1332 N xs K28 PK28 x5 s0 ((f_X12_premiumOf (xs (x5 + (1 : Int32)).toNatClampNeg) v).1) (f_X12_premiumOf (xs (x5 + (1 : Int32)).toNatClampNeg) v).2))
set_option maxHeartbeats 4000000 in
set_option maxRecDepth 100000 in
theorem w_L_law_1320 {E : gE} {d : Nat} {Q : gO → gS → Prop} (nf : Nat) (N : Nat) (xs : Nat → Int32) (hN : gva E 201 = N) (hxs : gxs E = xs) (hd : 16 ≤ d) (K28 : Int32 → gV → Int32 × gV)  (PK28 : Int32 → gV → Prop)  (hK28 : ∀ (x5 : Int32) (v : gV), PK28 x5 v → gqIV Q (K28 x5 v) → gG E m_L_law d Q (322 * nf) (2566 * nf) (rS v) 28 [(0, .ref (gva E 200)), (1, .ref (gX E + 0)), (2, .ref (gX E + 559)), (3, .ref (gX E + 570)), (4, .ref (gX E + 571)), (5, .int x5)] [])  (x5 : Int32) (s0 : Int32) (v : gV) (hp : p_L_law_1320 N xs K28 PK28 x5 s0 v) (hQ : gqIV Q (f_L_law_1320 N xs K28 x5 s0 v)) : gG E m_L_law d Q (322 * nf + 0) (2566 * nf + 0) (rS v) 1320 [(0, .ref (gva E 200)), (1, .ref (gX E + 0)), (2, .ref (gX E + 559)), (3, .ref (gX E + 570)), (4, .ref (gX E + 571)), (5, .int x5)] [.int s0] := by
  refine g_istore [(6, .int s0), (0, .ref (gva E 200)), (1, .ref (gX E + 0)), (2, .ref (gX E + 559)), (3, .ref (gX E + 570)), (4, .ref (gX E + 571)), (5, .int x5)] dL_law_1320 (by decide) rfl ?_
  refine g_aload_n 3 dL_law_1322 rfl ?_
  refine g_aload_n 1 dL_law_1323 rfl ?_
  refine g_iload 6 dL_law_1324 rfl ?_
  refine g_iconst dL_law_1326 (1 : Int32) (by decide) ?_
  refine g_iadd dL_law_1327 ?_
  obtain ⟨h173, hp⟩ := hp
  refine g_sld hN hxs h173 dL_law_1328 ?_
  obtain ⟨h174, hp⟩ := hp
  refine g_callV (rest := []) s_L_256_X12 rfl (c_X12_premiumOf (E := E) (d := d - 1)   (by omega) (xs (x5 + (1 : Int32)).toNatClampNeg) v h174) (by decide : kd 559 = (0, 9)) (show 559 < 572 by decide) rfl rfl (Nat.le_of_ble_eq_true rfl) (by omega) (by omega) (by omega) dL_law_1329 (adV ?_) axN
  refine g_room (k' := (322 * nf + 0)) (n' := (2566 * nf + 0)) (by omega) (by omega) ?_
  refine g_lv (lv' := [(0, .ref (gva E 200)), (1, .ref (gX E + 0)), (2, .ref (gX E + 559)), (3, .ref (gX E + 570)), (4, .ref (gX E + 571)), (5, .int x5), (6, .int s0)]) [1, 2, 3, 4, 5, 6, 0] rfl ?_
  exact w_L_law_1332 nf N xs hN hxs hd K28 PK28 hK28 x5 s0 ((f_X12_premiumOf (xs (x5 + (1 : Int32)).toNatClampNeg) v).1) (f_X12_premiumOf (xs (x5 + (1 : Int32)).toNatClampNeg) v).2 hp hQ
def f_L_law_1309 (N : Nat) (xs : Nat → Int32) (K28 : Int32 → gV → Int32 × gV)  (x5 : Int32) (v : gV) : Int32 × gV := f_L_law_1320 N xs K28 x5 ((f_L_premiumOf (xs (x5 + (1 : Int32)).toNatClampNeg) v).1) (f_L_premiumOf (xs (x5 + (1 : Int32)).toNatClampNeg) v).2
def p_L_law_1309 (N : Nat) (xs : Nat → Int32) (K28 : Int32 → gV → Int32 × gV)  (PK28 : Int32 → gV → Prop)  (x5 : Int32) (v : gV) : Prop := (vp_in (x5 + (1 : Int32)) N) ∧ ((p_L_premiumOf (xs (x5 + (1 : Int32)).toNatClampNeg) v) ∧ (p_L_law_1320 N xs K28 PK28 x5 ((f_L_premiumOf (xs (x5 + (1 : Int32)).toNatClampNeg) v).1) (f_L_premiumOf (xs (x5 + (1 : Int32)).toNatClampNeg) v).2))
set_option maxHeartbeats 4000000 in
set_option maxRecDepth 100000 in
theorem w_L_law_1309 {E : gE} {d : Nat} {Q : gO → gS → Prop} (nf : Nat) (N : Nat) (xs : Nat → Int32) (hN : gva E 201 = N) (hxs : gxs E = xs) (hd : 16 ≤ d) (K28 : Int32 → gV → Int32 × gV)  (PK28 : Int32 → gV → Prop)  (hK28 : ∀ (x5 : Int32) (v : gV), PK28 x5 v → gqIV Q (K28 x5 v) → gG E m_L_law d Q (322 * nf) (2566 * nf) (rS v) 28 [(0, .ref (gva E 200)), (1, .ref (gX E + 0)), (2, .ref (gX E + 559)), (3, .ref (gX E + 570)), (4, .ref (gX E + 571)), (5, .int x5)] [])  (x5 : Int32) (v : gV) (hp : p_L_law_1309 N xs K28 PK28 x5 v) (hQ : gqIV Q (f_L_law_1309 N xs K28 x5 v)) : gG E m_L_law d Q (322 * nf + 1) (2566 * nf + 6) (rS v) 1309 [(0, .ref (gva E 200)), (1, .ref (gX E + 0)), (2, .ref (gX E + 559)), (3, .ref (gX E + 570)), (4, .ref (gX E + 571)), (5, .int x5)] [] := by
  refine g_aload_n 1 dL_law_1309 rfl ?_
  refine g_aload_n 0 dL_law_1310 rfl ?_
  refine g_iload 5 dL_law_1311 rfl ?_
  refine g_iconst dL_law_1313 (1 : Int32) (by decide) ?_
  refine g_iadd dL_law_1314 ?_
  obtain ⟨h171, hp⟩ := hp
  refine g_sld hN hxs h171 dL_law_1315 ?_
  refine g_aload_n 3 dL_law_1316 rfl ?_
  obtain ⟨h172, hp⟩ := hp
  refine g_callT (rest := []) s_L_254 rfl (c_L_premiumOf (E := E) (d := d - 1)   (by omega) (xs (x5 + (1 : Int32)).toNatClampNeg) v h172) cqn rfl rfl (Nat.le_of_ble_eq_true rfl) (by omega) (by omega) (by omega) dL_law_1317 (adV ?_)
  refine g_room (k' := (322 * nf + 0)) (n' := (2566 * nf + 0)) (by omega) (by omega) ?_
  exact w_L_law_1320 nf N xs hN hxs hd K28 PK28 hK28 x5 ((f_L_premiumOf (xs (x5 + (1 : Int32)).toNatClampNeg) v).1) (f_L_premiumOf (xs (x5 + (1 : Int32)).toNatClampNeg) v).2 hp hQ
def f_L_law_1418 (N : Nat) (xs : Nat → Int32) (K28 : Int32 → gV → Int32 × gV)  (x5 : Int32) (v : gV) : Int32 × gV := f_L_law_3401 N xs K28 x5 v
def p_L_law_1418 (N : Nat) (xs : Nat → Int32) (K28 : Int32 → gV → Int32 × gV)  (PK28 : Int32 → gV → Prop)  (x5 : Int32) (v : gV) : Prop := p_L_law_3401 N xs K28 PK28 x5 v
set_option maxHeartbeats 4000000 in
set_option maxRecDepth 100000 in
theorem w_L_law_1418 {E : gE} {d : Nat} {Q : gO → gS → Prop} (nf : Nat) (N : Nat) (xs : Nat → Int32) (hN : gva E 201 = N) (hxs : gxs E = xs) (hd : 16 ≤ d) (K28 : Int32 → gV → Int32 × gV)  (PK28 : Int32 → gV → Prop)  (hK28 : ∀ (x5 : Int32) (v : gV), PK28 x5 v → gqIV Q (K28 x5 v) → gG E m_L_law d Q (322 * nf) (2566 * nf) (rS v) 28 [(0, .ref (gva E 200)), (1, .ref (gX E + 0)), (2, .ref (gX E + 559)), (3, .ref (gX E + 570)), (4, .ref (gX E + 571)), (5, .int x5)] [])  (x5 : Int32) (v : gV) (hp : p_L_law_1418 N xs K28 PK28 x5 v) (hQ : gqIV Q (f_L_law_1418 N xs K28 x5 v)) : gG E m_L_law d Q (322 * nf + 0) (2566 * nf + 0) (rS v) 1418 [(0, .ref (gva E 200)), (1, .ref (gX E + 0)), (2, .ref (gX E + 559)), (3, .ref (gX E + 570)), (4, .ref (gX E + 571)), (5, .int x5)] [] := by
  refine g_goto 3401 dL_law_1418 (by decide) ?_
  refine g_room (k' := (322 * nf + 0)) (n' := (2566 * nf + 0)) (by omega) (by omega) ?_
  exact w_L_law_3401 nf N xs hN hxs hd K28 PK28 hK28 x5 v hp hQ
def f_L_law_1388 (N : Nat) (xs : Nat → Int32) (K28 : Int32 → gV → Int32 × gV)  (x5 : Int32) (x6 : Int32) (s0 : Int32) (v : gV) : Int32 × gV := if (f_X12_thrown  v) = x6 then (if x6 = 0 then (if (lg_cmp (v.2.1 570 (0 : Int32).toNatClampNeg) s0.toInt64) = 0 then (f_L_law_1418 N xs K28 x5 v) else (((0 : Int32), v))) else (f_L_law_1418 N xs K28 x5 v)) else (((0 : Int32), v))
def p_L_law_1388 (N : Nat) (xs : Nat → Int32) (K28 : Int32 → gV → Int32 × gV)  (PK28 : Int32 → gV → Prop)  (x5 : Int32) (x6 : Int32) (s0 : Int32) (v : gV) : Prop := (p_X12_thrown  v) ∧ ((((f_X12_thrown  v) = x6) → (((x6 = 0) → ((((lg_cmp (v.2.1 570 (0 : Int32).toNatClampNeg) s0.toInt64) = 0) → (p_L_law_1418 N xs K28 PK28 x5 v)) ∧ (¬ ((lg_cmp (v.2.1 570 (0 : Int32).toNatClampNeg) s0.toInt64) = 0) → (True)))) ∧ (¬ (x6 = 0) → (p_L_law_1418 N xs K28 PK28 x5 v)))) ∧ (¬ ((f_X12_thrown  v) = x6) → (True)))
set_option maxHeartbeats 4000000 in
set_option maxRecDepth 100000 in
theorem w_L_law_1388 {E : gE} {d : Nat} {Q : gO → gS → Prop} (nf : Nat) (N : Nat) (xs : Nat → Int32) (hN : gva E 201 = N) (hxs : gxs E = xs) (hd : 16 ≤ d) (K28 : Int32 → gV → Int32 × gV)  (PK28 : Int32 → gV → Prop)  (hK28 : ∀ (x5 : Int32) (v : gV), PK28 x5 v → gqIV Q (K28 x5 v) → gG E m_L_law d Q (322 * nf) (2566 * nf) (rS v) 28 [(0, .ref (gva E 200)), (1, .ref (gX E + 0)), (2, .ref (gX E + 559)), (3, .ref (gX E + 570)), (4, .ref (gX E + 571)), (5, .int x5)] [])  (x5 : Int32) (x6 : Int32) (s0 : Int32) (v : gV) (hp : p_L_law_1388 N xs K28 PK28 x5 x6 s0 v) (hQ : gqIV Q (f_L_law_1388 N xs K28 x5 x6 s0 v)) : gG E m_L_law d Q (322 * nf + 0) (2566 * nf + 0) (rS v) 1388 [(0, .ref (gva E 200)), (1, .ref (gX E + 0)), (2, .ref (gX E + 559)), (3, .ref (gX E + 570)), (4, .ref (gX E + 571)), (5, .int x5), (6, .int x6)] [.int s0] := by
  refine g_istore [(7, .int s0), (0, .ref (gva E 200)), (1, .ref (gX E + 0)), (2, .ref (gX E + 559)), (3, .ref (gX E + 570)), (4, .ref (gX E + 571)), (5, .int x5), (6, .int x6)] dL_law_1388 (by decide) rfl ?_
  refine g_aload_n 3 dL_law_1390 rfl ?_
  obtain ⟨h184, hp⟩ := hp
  refine g_callV (rest := []) s_L_193_X12 rfl (c_X12_thrown (E := E) (d := d - 1)   (by omega)  v h184) (by decide : kd 559 = (0, 9)) (show 559 < 572 by decide) rfl rfl (Nat.le_of_ble_eq_true rfl) (by omega) (by omega) (by omega) dL_law_1391 (adV ?_) axN
  refine g_iload 7 dL_law_1394 rfl ?_
  refine g_icmp_eq 1401 dL_law_1396 (by decide) (fun h185 => ?_) (fun h185 => ?_)
  · have hQ := qp (P := gqIV Q) h185 hQ
    have hp := hp.1 h185
    refine g_iload 7 dL_law_1401 rfl ?_
    refine g_if_ne 1418 dL_law_1403 (by decide) (fun h186 => ?_) (fun h186 => ?_)
    · have hQ := qn (P := gqIV Q) h186 hQ
      have hp := hp.2 h186
      refine g_room (k' := (322 * nf + 0)) (n' := (2566 * nf + 0)) (by omega) (by omega) ?_
      refine g_lv (lv' := [(0, .ref (gva E 200)), (1, .ref (gX E + 0)), (2, .ref (gX E + 559)), (3, .ref (gX E + 570)), (4, .ref (gX E + 571)), (5, .int x5)]) [1, 2, 3, 4, 5, 6] rfl ?_
      exact w_L_law_1418 nf N xs hN hxs hd K28 PK28 hK28 x5 v hp hQ
    · have hQ := qp (P := gqIV Q) h186 hQ
      have hp := hp.1 h186
      refine g_aload_n 4 dL_law_1406 rfl ?_
      refine g_iconst dL_law_1407 (0 : Int32) (by decide) ?_
      refine g_lald (by decide : kd 570 = (3, 1)) (show 570 < 572 by decide) (show ¬ (_ ∨ _) by decide) dL_law_1408 ?_
      refine g_iload 0 dL_law_1409 rfl ?_
      refine g_i2l dL_law_1411 ?_
      refine g_lcmp dL_law_1412 ?_
      refine g_if_eq 1418 dL_law_1413 (by decide) (fun h187 => ?_) (fun h187 => ?_)
      · have hQ := qp (P := gqIV Q) h187 hQ
        have hp := hp.1 h187
        refine g_room (k' := (322 * nf + 0)) (n' := (2566 * nf + 0)) (by omega) (by omega) ?_
        refine g_lv (lv' := [(0, .ref (gva E 200)), (1, .ref (gX E + 0)), (2, .ref (gX E + 559)), (3, .ref (gX E + 570)), (4, .ref (gX E + 571)), (5, .int x5)]) [1, 2, 3, 4, 5, 6] rfl ?_
        exact w_L_law_1418 nf N xs hN hxs hd K28 PK28 hK28 x5 v hp hQ
      · have hQ := qn (P := gqIV Q) h187 hQ
        have hp := hp.2 h187
        refine g_iconst dL_law_1416 (0 : Int32) (by decide) ?_
        exact g_zret rfl rfl dL_law_1417 hQ
  · have hQ := qn (P := gqIV Q) h185 hQ
    have hp := hp.2 h185
    refine g_iconst dL_law_1399 (0 : Int32) (by decide) ?_
    exact g_zret rfl rfl dL_law_1400 hQ
def f_L_law_1376 (N : Nat) (xs : Nat → Int32) (K28 : Int32 → gV → Int32 × gV)  (x5 : Int32) (s0 : Int32) (v : gV) : Int32 × gV := f_L_law_1388 N xs K28 x5 s0 ((f_X12_endOf (xs (x5 + (1 : Int32)).toNatClampNeg) v).1) (f_X12_endOf (xs (x5 + (1 : Int32)).toNatClampNeg) v).2
def p_L_law_1376 (N : Nat) (xs : Nat → Int32) (K28 : Int32 → gV → Int32 × gV)  (PK28 : Int32 → gV → Prop)  (x5 : Int32) (s0 : Int32) (v : gV) : Prop := (vp_in (x5 + (1 : Int32)) N) ∧ ((p_X12_endOf (xs (x5 + (1 : Int32)).toNatClampNeg) v) ∧ (p_L_law_1388 N xs K28 PK28 x5 s0 ((f_X12_endOf (xs (x5 + (1 : Int32)).toNatClampNeg) v).1) (f_X12_endOf (xs (x5 + (1 : Int32)).toNatClampNeg) v).2))
set_option maxHeartbeats 4000000 in
set_option maxRecDepth 100000 in
theorem w_L_law_1376 {E : gE} {d : Nat} {Q : gO → gS → Prop} (nf : Nat) (N : Nat) (xs : Nat → Int32) (hN : gva E 201 = N) (hxs : gxs E = xs) (hd : 16 ≤ d) (K28 : Int32 → gV → Int32 × gV)  (PK28 : Int32 → gV → Prop)  (hK28 : ∀ (x5 : Int32) (v : gV), PK28 x5 v → gqIV Q (K28 x5 v) → gG E m_L_law d Q (322 * nf) (2566 * nf) (rS v) 28 [(0, .ref (gva E 200)), (1, .ref (gX E + 0)), (2, .ref (gX E + 559)), (3, .ref (gX E + 570)), (4, .ref (gX E + 571)), (5, .int x5)] [])  (x5 : Int32) (s0 : Int32) (v : gV) (hp : p_L_law_1376 N xs K28 PK28 x5 s0 v) (hQ : gqIV Q (f_L_law_1376 N xs K28 x5 s0 v)) : gG E m_L_law d Q (322 * nf + 0) (2566 * nf + 0) (rS v) 1376 [(0, .ref (gva E 200)), (1, .ref (gX E + 0)), (2, .ref (gX E + 559)), (3, .ref (gX E + 570)), (4, .ref (gX E + 571)), (5, .int x5)] [.int s0] := by
  refine g_istore [(6, .int s0), (0, .ref (gva E 200)), (1, .ref (gX E + 0)), (2, .ref (gX E + 559)), (3, .ref (gX E + 570)), (4, .ref (gX E + 571)), (5, .int x5)] dL_law_1376 (by decide) rfl ?_
  refine g_aload_n 3 dL_law_1378 rfl ?_
  refine g_aload_n 1 dL_law_1379 rfl ?_
  refine g_iload 6 dL_law_1380 rfl ?_
  refine g_iconst dL_law_1382 (1 : Int32) (by decide) ?_
  refine g_iadd dL_law_1383 ?_
  obtain ⟨h182, hp⟩ := hp
  refine g_sld hN hxs h182 dL_law_1384 ?_
  obtain ⟨h183, hp⟩ := hp
  refine g_callV (rest := []) s_L_259_X12 rfl (c_X12_endOf (E := E) (d := d - 1)   (by omega) (xs (x5 + (1 : Int32)).toNatClampNeg) v h183) (by decide : kd 559 = (0, 9)) (show 559 < 572 by decide) rfl rfl (Nat.le_of_ble_eq_true rfl) (by omega) (by omega) (by omega) dL_law_1385 (adV ?_) axN
  refine g_room (k' := (322 * nf + 0)) (n' := (2566 * nf + 0)) (by omega) (by omega) ?_
  refine g_lv (lv' := [(0, .ref (gva E 200)), (1, .ref (gX E + 0)), (2, .ref (gX E + 559)), (3, .ref (gX E + 570)), (4, .ref (gX E + 571)), (5, .int x5), (6, .int s0)]) [1, 2, 3, 4, 5, 6, 0] rfl ?_
  exact w_L_law_1388 nf N xs hN hxs hd K28 PK28 hK28 x5 s0 ((f_X12_endOf (xs (x5 + (1 : Int32)).toNatClampNeg) v).1) (f_X12_endOf (xs (x5 + (1 : Int32)).toNatClampNeg) v).2 hp hQ
def f_L_law_1365 (N : Nat) (xs : Nat → Int32) (K28 : Int32 → gV → Int32 × gV)  (x5 : Int32) (v : gV) : Int32 × gV := f_L_law_1376 N xs K28 x5 ((f_L_endOf (xs (x5 + (1 : Int32)).toNatClampNeg) v).1) (f_L_endOf (xs (x5 + (1 : Int32)).toNatClampNeg) v).2
def p_L_law_1365 (N : Nat) (xs : Nat → Int32) (K28 : Int32 → gV → Int32 × gV)  (PK28 : Int32 → gV → Prop)  (x5 : Int32) (v : gV) : Prop := (vp_in (x5 + (1 : Int32)) N) ∧ ((p_L_endOf (xs (x5 + (1 : Int32)).toNatClampNeg) v) ∧ (p_L_law_1376 N xs K28 PK28 x5 ((f_L_endOf (xs (x5 + (1 : Int32)).toNatClampNeg) v).1) (f_L_endOf (xs (x5 + (1 : Int32)).toNatClampNeg) v).2))
set_option maxHeartbeats 4000000 in
set_option maxRecDepth 100000 in
theorem w_L_law_1365 {E : gE} {d : Nat} {Q : gO → gS → Prop} (nf : Nat) (N : Nat) (xs : Nat → Int32) (hN : gva E 201 = N) (hxs : gxs E = xs) (hd : 16 ≤ d) (K28 : Int32 → gV → Int32 × gV)  (PK28 : Int32 → gV → Prop)  (hK28 : ∀ (x5 : Int32) (v : gV), PK28 x5 v → gqIV Q (K28 x5 v) → gG E m_L_law d Q (322 * nf) (2566 * nf) (rS v) 28 [(0, .ref (gva E 200)), (1, .ref (gX E + 0)), (2, .ref (gX E + 559)), (3, .ref (gX E + 570)), (4, .ref (gX E + 571)), (5, .int x5)] [])  (x5 : Int32) (v : gV) (hp : p_L_law_1365 N xs K28 PK28 x5 v) (hQ : gqIV Q (f_L_law_1365 N xs K28 x5 v)) : gG E m_L_law d Q (322 * nf + 1) (2566 * nf + 6) (rS v) 1365 [(0, .ref (gva E 200)), (1, .ref (gX E + 0)), (2, .ref (gX E + 559)), (3, .ref (gX E + 570)), (4, .ref (gX E + 571)), (5, .int x5)] [] := by
  refine g_aload_n 1 dL_law_1365 rfl ?_
  refine g_aload_n 0 dL_law_1366 rfl ?_
  refine g_iload 5 dL_law_1367 rfl ?_
  refine g_iconst dL_law_1369 (1 : Int32) (by decide) ?_
  refine g_iadd dL_law_1370 ?_
  obtain ⟨h180, hp⟩ := hp
  refine g_sld hN hxs h180 dL_law_1371 ?_
  refine g_aload_n 3 dL_law_1372 rfl ?_
  obtain ⟨h181, hp⟩ := hp
  refine g_callT (rest := []) s_L_257 rfl (c_L_endOf (E := E) (d := d - 1)   (by omega) (xs (x5 + (1 : Int32)).toNatClampNeg) v h181) cqn rfl rfl (Nat.le_of_ble_eq_true rfl) (by omega) (by omega) (by omega) dL_law_1373 (adV ?_)
  refine g_room (k' := (322 * nf + 0)) (n' := (2566 * nf + 0)) (by omega) (by omega) ?_
  exact w_L_law_1376 nf N xs hN hxs hd K28 PK28 hK28 x5 ((f_L_endOf (xs (x5 + (1 : Int32)).toNatClampNeg) v).1) (f_L_endOf (xs (x5 + (1 : Int32)).toNatClampNeg) v).2 hp hQ
def f_L_law_1481 (N : Nat) (xs : Nat → Int32) (K28 : Int32 → gV → Int32 × gV)  (x5 : Int32) (v : gV) : Int32 × gV := f_L_law_3401 N xs K28 x5 v
def p_L_law_1481 (N : Nat) (xs : Nat → Int32) (K28 : Int32 → gV → Int32 × gV)  (PK28 : Int32 → gV → Prop)  (x5 : Int32) (v : gV) : Prop := p_L_law_3401 N xs K28 PK28 x5 v
set_option maxHeartbeats 4000000 in
set_option maxRecDepth 100000 in
theorem w_L_law_1481 {E : gE} {d : Nat} {Q : gO → gS → Prop} (nf : Nat) (N : Nat) (xs : Nat → Int32) (hN : gva E 201 = N) (hxs : gxs E = xs) (hd : 16 ≤ d) (K28 : Int32 → gV → Int32 × gV)  (PK28 : Int32 → gV → Prop)  (hK28 : ∀ (x5 : Int32) (v : gV), PK28 x5 v → gqIV Q (K28 x5 v) → gG E m_L_law d Q (322 * nf) (2566 * nf) (rS v) 28 [(0, .ref (gva E 200)), (1, .ref (gX E + 0)), (2, .ref (gX E + 559)), (3, .ref (gX E + 570)), (4, .ref (gX E + 571)), (5, .int x5)] [])  (x5 : Int32) (v : gV) (hp : p_L_law_1481 N xs K28 PK28 x5 v) (hQ : gqIV Q (f_L_law_1481 N xs K28 x5 v)) : gG E m_L_law d Q (322 * nf + 0) (2566 * nf + 0) (rS v) 1481 [(0, .ref (gva E 200)), (1, .ref (gX E + 0)), (2, .ref (gX E + 559)), (3, .ref (gX E + 570)), (4, .ref (gX E + 571)), (5, .int x5)] [] := by
  refine g_goto 3401 dL_law_1481 (by decide) ?_
  refine g_room (k' := (322 * nf + 0)) (n' := (2566 * nf + 0)) (by omega) (by omega) ?_
  exact w_L_law_3401 nf N xs hN hxs hd K28 PK28 hK28 x5 v hp hQ
def f_L_law_1475 (N : Nat) (xs : Nat → Int32) (K28 : Int32 → gV → Int32 × gV)  (x5 : Int32) (s0 : Int64) (s1 : Int64) (v : gV) : Int32 × gV := if (lg_cmp s1 s0) = 0 then (f_L_law_1481 N xs K28 x5 v) else (((0 : Int32), v))
def p_L_law_1475 (N : Nat) (xs : Nat → Int32) (K28 : Int32 → gV → Int32 × gV)  (PK28 : Int32 → gV → Prop)  (x5 : Int32) (s0 : Int64) (s1 : Int64) (v : gV) : Prop := (((lg_cmp s1 s0) = 0) → (p_L_law_1481 N xs K28 PK28 x5 v)) ∧ (¬ ((lg_cmp s1 s0) = 0) → (True))
set_option maxHeartbeats 4000000 in
set_option maxRecDepth 100000 in
theorem w_L_law_1475 {E : gE} {d : Nat} {Q : gO → gS → Prop} (nf : Nat) (N : Nat) (xs : Nat → Int32) (hN : gva E 201 = N) (hxs : gxs E = xs) (hd : 16 ≤ d) (K28 : Int32 → gV → Int32 × gV)  (PK28 : Int32 → gV → Prop)  (hK28 : ∀ (x5 : Int32) (v : gV), PK28 x5 v → gqIV Q (K28 x5 v) → gG E m_L_law d Q (322 * nf) (2566 * nf) (rS v) 28 [(0, .ref (gva E 200)), (1, .ref (gX E + 0)), (2, .ref (gX E + 559)), (3, .ref (gX E + 570)), (4, .ref (gX E + 571)), (5, .int x5)] [])  (x5 : Int32) (s0 : Int64) (s1 : Int64) (v : gV) (hp : p_L_law_1475 N xs K28 PK28 x5 s0 s1 v) (hQ : gqIV Q (f_L_law_1475 N xs K28 x5 s0 s1 v)) : gG E m_L_law d Q (322 * nf + 0) (2566 * nf + 0) (rS v) 1475 [(0, .ref (gva E 200)), (1, .ref (gX E + 0)), (2, .ref (gX E + 559)), (3, .ref (gX E + 570)), (4, .ref (gX E + 571)), (5, .int x5)] [.long s0, .long s1] := by
  refine g_lcmp dL_law_1475 ?_
  refine g_if_eq 1481 dL_law_1476 (by decide) (fun h197 => ?_) (fun h197 => ?_)
  · have hQ := qp (P := gqIV Q) h197 hQ
    have hp := hp.1 h197
    refine g_room (k' := (322 * nf + 0)) (n' := (2566 * nf + 0)) (by omega) (by omega) ?_
    exact w_L_law_1481 nf N xs hN hxs hd K28 PK28 hK28 x5 v hp hQ
  · have hQ := qn (P := gqIV Q) h197 hQ
    have hp := hp.2 h197
    refine g_iconst dL_law_1479 (0 : Int32) (by decide) ?_
    exact g_zret rfl rfl dL_law_1480 hQ
def f_L_law_1444 (N : Nat) (xs : Nat → Int32) (K28 : Int32 → gV → Int32 × gV)  (x5 : Int32) (x6 : Int32) (s0 : Int32) (v : gV) : Int32 × gV := if (f_X12_thrown  v) = x6 then (if x6 = 0 then (if s0 = 0 then (f_L_law_1475 N xs K28 x5 (0 : Int64) (v.2.1 570 (0 : Int32).toNatClampNeg) v) else (f_L_law_1475 N xs K28 x5 (1 : Int64) (v.2.1 570 (0 : Int32).toNatClampNeg) v)) else (f_L_law_1481 N xs K28 x5 v)) else (((0 : Int32), v))
def p_L_law_1444 (N : Nat) (xs : Nat → Int32) (K28 : Int32 → gV → Int32 × gV)  (PK28 : Int32 → gV → Prop)  (x5 : Int32) (x6 : Int32) (s0 : Int32) (v : gV) : Prop := (p_X12_thrown  v) ∧ ((((f_X12_thrown  v) = x6) → (((x6 = 0) → (((s0 = 0) → (p_L_law_1475 N xs K28 PK28 x5 (0 : Int64) (v.2.1 570 (0 : Int32).toNatClampNeg) v)) ∧ (¬ (s0 = 0) → (p_L_law_1475 N xs K28 PK28 x5 (1 : Int64) (v.2.1 570 (0 : Int32).toNatClampNeg) v)))) ∧ (¬ (x6 = 0) → (p_L_law_1481 N xs K28 PK28 x5 v)))) ∧ (¬ ((f_X12_thrown  v) = x6) → (True)))
set_option maxHeartbeats 4000000 in
set_option maxRecDepth 100000 in
theorem w_L_law_1444 {E : gE} {d : Nat} {Q : gO → gS → Prop} (nf : Nat) (N : Nat) (xs : Nat → Int32) (hN : gva E 201 = N) (hxs : gxs E = xs) (hd : 16 ≤ d) (K28 : Int32 → gV → Int32 × gV)  (PK28 : Int32 → gV → Prop)  (hK28 : ∀ (x5 : Int32) (v : gV), PK28 x5 v → gqIV Q (K28 x5 v) → gG E m_L_law d Q (322 * nf) (2566 * nf) (rS v) 28 [(0, .ref (gva E 200)), (1, .ref (gX E + 0)), (2, .ref (gX E + 559)), (3, .ref (gX E + 570)), (4, .ref (gX E + 571)), (5, .int x5)] [])  (x5 : Int32) (x6 : Int32) (s0 : Int32) (v : gV) (hp : p_L_law_1444 N xs K28 PK28 x5 x6 s0 v) (hQ : gqIV Q (f_L_law_1444 N xs K28 x5 x6 s0 v)) : gG E m_L_law d Q (322 * nf + 0) (2566 * nf + 0) (rS v) 1444 [(0, .ref (gva E 200)), (1, .ref (gX E + 0)), (2, .ref (gX E + 559)), (3, .ref (gX E + 570)), (4, .ref (gX E + 571)), (5, .int x5), (6, .int x6)] [.int s0] := by
  refine g_istore [(7, .int s0), (0, .ref (gva E 200)), (1, .ref (gX E + 0)), (2, .ref (gX E + 559)), (3, .ref (gX E + 570)), (4, .ref (gX E + 571)), (5, .int x5), (6, .int x6)] dL_law_1444 (by decide) rfl ?_
  refine g_aload_n 3 dL_law_1446 rfl ?_
  obtain ⟨h193, hp⟩ := hp
  refine g_callV (rest := []) s_L_193_X12 rfl (c_X12_thrown (E := E) (d := d - 1)   (by omega)  v h193) (by decide : kd 559 = (0, 9)) (show 559 < 572 by decide) rfl rfl (Nat.le_of_ble_eq_true rfl) (by omega) (by omega) (by omega) dL_law_1447 (adV ?_) axN
  refine g_iload 7 dL_law_1450 rfl ?_
  refine g_icmp_eq 1457 dL_law_1452 (by decide) (fun h194 => ?_) (fun h194 => ?_)
  · have hQ := qp (P := gqIV Q) h194 hQ
    have hp := hp.1 h194
    refine g_iload 7 dL_law_1457 rfl ?_
    refine g_if_ne 1481 dL_law_1459 (by decide) (fun h195 => ?_) (fun h195 => ?_)
    · have hQ := qn (P := gqIV Q) h195 hQ
      have hp := hp.2 h195
      refine g_room (k' := (322 * nf + 0)) (n' := (2566 * nf + 0)) (by omega) (by omega) ?_
      refine g_lv (lv' := [(0, .ref (gva E 200)), (1, .ref (gX E + 0)), (2, .ref (gX E + 559)), (3, .ref (gX E + 570)), (4, .ref (gX E + 571)), (5, .int x5)]) [1, 2, 3, 4, 5, 6] rfl ?_
      exact w_L_law_1481 nf N xs hN hxs hd K28 PK28 hK28 x5 v hp hQ
    · have hQ := qp (P := gqIV Q) h195 hQ
      have hp := hp.1 h195
      refine g_aload_n 4 dL_law_1462 rfl ?_
      refine g_iconst dL_law_1463 (0 : Int32) (by decide) ?_
      refine g_lald (by decide : kd 570 = (3, 1)) (show 570 < 572 by decide) (show ¬ (_ ∨ _) by decide) dL_law_1464 ?_
      refine g_iload 0 dL_law_1465 rfl ?_
      refine g_if_eq 1474 dL_law_1467 (by decide) (fun h196 => ?_) (fun h196 => ?_)
      · have hQ := qp (P := gqIV Q) h196 hQ
        have hp := hp.1 h196
        refine g_lconst dL_law_1474 (0 : Int64) (by decide) ?_
        refine g_room (k' := (322 * nf + 0)) (n' := (2566 * nf + 0)) (by omega) (by omega) ?_
        refine g_lv (lv' := [(0, .ref (gva E 200)), (1, .ref (gX E + 0)), (2, .ref (gX E + 559)), (3, .ref (gX E + 570)), (4, .ref (gX E + 571)), (5, .int x5)]) [1, 2, 3, 4, 5, 6] rfl ?_
        exact w_L_law_1475 nf N xs hN hxs hd K28 PK28 hK28 x5 (0 : Int64) (v.2.1 570 (0 : Int32).toNatClampNeg) v hp hQ
      · have hQ := qn (P := gqIV Q) h196 hQ
        have hp := hp.2 h196
        refine g_lconst dL_law_1470 (1 : Int64) (by decide) ?_
        refine g_goto 1475 dL_law_1471 (by decide) ?_
        refine g_room (k' := (322 * nf + 0)) (n' := (2566 * nf + 0)) (by omega) (by omega) ?_
        refine g_lv (lv' := [(0, .ref (gva E 200)), (1, .ref (gX E + 0)), (2, .ref (gX E + 559)), (3, .ref (gX E + 570)), (4, .ref (gX E + 571)), (5, .int x5)]) [1, 2, 3, 4, 5, 6] rfl ?_
        exact w_L_law_1475 nf N xs hN hxs hd K28 PK28 hK28 x5 (1 : Int64) (v.2.1 570 (0 : Int32).toNatClampNeg) v hp hQ
  · have hQ := qn (P := gqIV Q) h194 hQ
    have hp := hp.2 h194
    refine g_iconst dL_law_1455 (0 : Int32) (by decide) ?_
    exact g_zret rfl rfl dL_law_1456 hQ
def f_L_law_1432 (N : Nat) (xs : Nat → Int32) (K28 : Int32 → gV → Int32 × gV)  (x5 : Int32) (s0 : Int32) (v : gV) : Int32 × gV := f_L_law_1444 N xs K28 x5 s0 ((f_X12_isActive (xs (x5 + (1 : Int32)).toNatClampNeg) v).1) (f_X12_isActive (xs (x5 + (1 : Int32)).toNatClampNeg) v).2
def p_L_law_1432 (N : Nat) (xs : Nat → Int32) (K28 : Int32 → gV → Int32 × gV)  (PK28 : Int32 → gV → Prop)  (x5 : Int32) (s0 : Int32) (v : gV) : Prop := (vp_in (x5 + (1 : Int32)) N) ∧ ((p_X12_isActive (xs (x5 + (1 : Int32)).toNatClampNeg) v) ∧ (p_L_law_1444 N xs K28 PK28 x5 s0 ((f_X12_isActive (xs (x5 + (1 : Int32)).toNatClampNeg) v).1) (f_X12_isActive (xs (x5 + (1 : Int32)).toNatClampNeg) v).2))
set_option maxHeartbeats 4000000 in
set_option maxRecDepth 100000 in
theorem w_L_law_1432 {E : gE} {d : Nat} {Q : gO → gS → Prop} (nf : Nat) (N : Nat) (xs : Nat → Int32) (hN : gva E 201 = N) (hxs : gxs E = xs) (hd : 16 ≤ d) (K28 : Int32 → gV → Int32 × gV)  (PK28 : Int32 → gV → Prop)  (hK28 : ∀ (x5 : Int32) (v : gV), PK28 x5 v → gqIV Q (K28 x5 v) → gG E m_L_law d Q (322 * nf) (2566 * nf) (rS v) 28 [(0, .ref (gva E 200)), (1, .ref (gX E + 0)), (2, .ref (gX E + 559)), (3, .ref (gX E + 570)), (4, .ref (gX E + 571)), (5, .int x5)] [])  (x5 : Int32) (s0 : Int32) (v : gV) (hp : p_L_law_1432 N xs K28 PK28 x5 s0 v) (hQ : gqIV Q (f_L_law_1432 N xs K28 x5 s0 v)) : gG E m_L_law d Q (322 * nf + 0) (2566 * nf + 0) (rS v) 1432 [(0, .ref (gva E 200)), (1, .ref (gX E + 0)), (2, .ref (gX E + 559)), (3, .ref (gX E + 570)), (4, .ref (gX E + 571)), (5, .int x5)] [.int s0] := by
  refine g_istore [(6, .int s0), (0, .ref (gva E 200)), (1, .ref (gX E + 0)), (2, .ref (gX E + 559)), (3, .ref (gX E + 570)), (4, .ref (gX E + 571)), (5, .int x5)] dL_law_1432 (by decide) rfl ?_
  refine g_aload_n 3 dL_law_1434 rfl ?_
  refine g_aload_n 1 dL_law_1435 rfl ?_
  refine g_iload 6 dL_law_1436 rfl ?_
  refine g_iconst dL_law_1438 (1 : Int32) (by decide) ?_
  refine g_iadd dL_law_1439 ?_
  obtain ⟨h191, hp⟩ := hp
  refine g_sld hN hxs h191 dL_law_1440 ?_
  obtain ⟨h192, hp⟩ := hp
  refine g_callV (rest := []) s_L_262_X12 rfl (c_X12_isActive (E := E) (d := d - 1)   (by omega) (xs (x5 + (1 : Int32)).toNatClampNeg) v h192) (by decide : kd 559 = (0, 9)) (show 559 < 572 by decide) rfl rfl (Nat.le_of_ble_eq_true rfl) (by omega) (by omega) (by omega) dL_law_1441 (adV ?_) axN
  refine g_room (k' := (322 * nf + 0)) (n' := (2566 * nf + 0)) (by omega) (by omega) ?_
  refine g_lv (lv' := [(0, .ref (gva E 200)), (1, .ref (gX E + 0)), (2, .ref (gX E + 559)), (3, .ref (gX E + 570)), (4, .ref (gX E + 571)), (5, .int x5), (6, .int s0)]) [1, 2, 3, 4, 5, 6, 0] rfl ?_
  exact w_L_law_1444 nf N xs hN hxs hd K28 PK28 hK28 x5 s0 ((f_X12_isActive (xs (x5 + (1 : Int32)).toNatClampNeg) v).1) (f_X12_isActive (xs (x5 + (1 : Int32)).toNatClampNeg) v).2 hp hQ
def f_L_law_1421 (N : Nat) (xs : Nat → Int32) (K28 : Int32 → gV → Int32 × gV)  (x5 : Int32) (v : gV) : Int32 × gV := f_L_law_1432 N xs K28 x5 ((f_L_isActive (xs (x5 + (1 : Int32)).toNatClampNeg) v).1) (f_L_isActive (xs (x5 + (1 : Int32)).toNatClampNeg) v).2
def p_L_law_1421 (N : Nat) (xs : Nat → Int32) (K28 : Int32 → gV → Int32 × gV)  (PK28 : Int32 → gV → Prop)  (x5 : Int32) (v : gV) : Prop := (vp_in (x5 + (1 : Int32)) N) ∧ ((p_L_isActive (xs (x5 + (1 : Int32)).toNatClampNeg) v) ∧ (p_L_law_1432 N xs K28 PK28 x5 ((f_L_isActive (xs (x5 + (1 : Int32)).toNatClampNeg) v).1) (f_L_isActive (xs (x5 + (1 : Int32)).toNatClampNeg) v).2))
set_option maxHeartbeats 4000000 in
set_option maxRecDepth 100000 in
theorem w_L_law_1421 {E : gE} {d : Nat} {Q : gO → gS → Prop} (nf : Nat) (N : Nat) (xs : Nat → Int32) (hN : gva E 201 = N) (hxs : gxs E = xs) (hd : 16 ≤ d) (K28 : Int32 → gV → Int32 × gV)  (PK28 : Int32 → gV → Prop)  (hK28 : ∀ (x5 : Int32) (v : gV), PK28 x5 v → gqIV Q (K28 x5 v) → gG E m_L_law d Q (322 * nf) (2566 * nf) (rS v) 28 [(0, .ref (gva E 200)), (1, .ref (gX E + 0)), (2, .ref (gX E + 559)), (3, .ref (gX E + 570)), (4, .ref (gX E + 571)), (5, .int x5)] [])  (x5 : Int32) (v : gV) (hp : p_L_law_1421 N xs K28 PK28 x5 v) (hQ : gqIV Q (f_L_law_1421 N xs K28 x5 v)) : gG E m_L_law d Q (322 * nf + 1) (2566 * nf + 6) (rS v) 1421 [(0, .ref (gva E 200)), (1, .ref (gX E + 0)), (2, .ref (gX E + 559)), (3, .ref (gX E + 570)), (4, .ref (gX E + 571)), (5, .int x5)] [] := by
  refine g_aload_n 1 dL_law_1421 rfl ?_
  refine g_aload_n 0 dL_law_1422 rfl ?_
  refine g_iload 5 dL_law_1423 rfl ?_
  refine g_iconst dL_law_1425 (1 : Int32) (by decide) ?_
  refine g_iadd dL_law_1426 ?_
  obtain ⟨h189, hp⟩ := hp
  refine g_sld hN hxs h189 dL_law_1427 ?_
  refine g_aload_n 3 dL_law_1428 rfl ?_
  obtain ⟨h190, hp⟩ := hp
  refine g_callT (rest := []) s_L_260 rfl (c_L_isActive (E := E) (d := d - 1)   (by omega) (xs (x5 + (1 : Int32)).toNatClampNeg) v h190) cqn rfl rfl (Nat.le_of_ble_eq_true rfl) (by omega) (by omega) (by omega) dL_law_1429 (adV ?_)
  refine g_room (k' := (322 * nf + 0)) (n' := (2566 * nf + 0)) (by omega) (by omega) ?_
  exact w_L_law_1432 nf N xs hN hxs hd K28 PK28 hK28 x5 ((f_L_isActive (xs (x5 + (1 : Int32)).toNatClampNeg) v).1) (f_L_isActive (xs (x5 + (1 : Int32)).toNatClampNeg) v).2 hp hQ
def f_L_law_1492 (N : Nat) (xs : Nat → Int32) (K28 : Int32 → gV → Int32 × gV)  (x5 : Int32) (s0 : Int32) (s1 : Int32) (v : gV) : Int32 × gV := if s1 = s0 then (f_L_law_3401 N xs K28 x5 v) else (((0 : Int32), v))
def p_L_law_1492 (N : Nat) (xs : Nat → Int32) (K28 : Int32 → gV → Int32 × gV)  (PK28 : Int32 → gV → Prop)  (x5 : Int32) (s0 : Int32) (s1 : Int32) (v : gV) : Prop := ((s1 = s0) → (p_L_law_3401 N xs K28 PK28 x5 v)) ∧ (¬ (s1 = s0) → (True))
set_option maxHeartbeats 4000000 in
set_option maxRecDepth 100000 in
theorem w_L_law_1492 {E : gE} {d : Nat} {Q : gO → gS → Prop} (nf : Nat) (N : Nat) (xs : Nat → Int32) (hN : gva E 201 = N) (hxs : gxs E = xs) (hd : 16 ≤ d) (K28 : Int32 → gV → Int32 × gV)  (PK28 : Int32 → gV → Prop)  (hK28 : ∀ (x5 : Int32) (v : gV), PK28 x5 v → gqIV Q (K28 x5 v) → gG E m_L_law d Q (322 * nf) (2566 * nf) (rS v) 28 [(0, .ref (gva E 200)), (1, .ref (gX E + 0)), (2, .ref (gX E + 559)), (3, .ref (gX E + 570)), (4, .ref (gX E + 571)), (5, .int x5)] [])  (x5 : Int32) (s0 : Int32) (s1 : Int32) (v : gV) (hp : p_L_law_1492 N xs K28 PK28 x5 s0 s1 v) (hQ : gqIV Q (f_L_law_1492 N xs K28 x5 s0 s1 v)) : gG E m_L_law d Q (322 * nf + 0) (2566 * nf + 0) (rS v) 1492 [(0, .ref (gva E 200)), (1, .ref (gX E + 0)), (2, .ref (gX E + 559)), (3, .ref (gX E + 570)), (4, .ref (gX E + 571)), (5, .int x5)] [.int s0, .int s1] := by
  refine g_icmp_eq 3401 dL_law_1492 (by decide) (fun h201 => ?_) (fun h201 => ?_)
  · have hQ := qp (P := gqIV Q) h201 hQ
    have hp := hp.1 h201
    refine g_room (k' := (322 * nf + 0)) (n' := (2566 * nf + 0)) (by omega) (by omega) ?_
    exact w_L_law_3401 nf N xs hN hxs hd K28 PK28 hK28 x5 v hp hQ
  · have hQ := qn (P := gqIV Q) h201 hQ
    have hp := hp.2 h201
    refine g_iconst dL_law_1495 (0 : Int32) (by decide) ?_
    exact g_zret rfl rfl dL_law_1496 hQ
def f_L_law_1484 (N : Nat) (xs : Nat → Int32) (K28 : Int32 → gV → Int32 × gV)  (x5 : Int32) (v : gV) : Int32 × gV := f_L_law_1492 N xs K28 x5 ((f_X12_claimCount  v).1) (f_X11_claimCount  v) (f_X12_claimCount  v).2
def p_L_law_1484 (N : Nat) (xs : Nat → Int32) (K28 : Int32 → gV → Int32 × gV)  (PK28 : Int32 → gV → Prop)  (x5 : Int32) (v : gV) : Prop := (p_X11_claimCount  v) ∧ ((p_X12_claimCount  v) ∧ (p_L_law_1492 N xs K28 PK28 x5 ((f_X12_claimCount  v).1) (f_X11_claimCount  v) (f_X12_claimCount  v).2))
set_option maxHeartbeats 4000000 in
set_option maxRecDepth 100000 in
theorem w_L_law_1484 {E : gE} {d : Nat} {Q : gO → gS → Prop} (nf : Nat) (N : Nat) (xs : Nat → Int32) (hN : gva E 201 = N) (hxs : gxs E = xs) (hd : 16 ≤ d) (K28 : Int32 → gV → Int32 × gV)  (PK28 : Int32 → gV → Prop)  (hK28 : ∀ (x5 : Int32) (v : gV), PK28 x5 v → gqIV Q (K28 x5 v) → gG E m_L_law d Q (322 * nf) (2566 * nf) (rS v) 28 [(0, .ref (gva E 200)), (1, .ref (gX E + 0)), (2, .ref (gX E + 559)), (3, .ref (gX E + 570)), (4, .ref (gX E + 571)), (5, .int x5)] [])  (x5 : Int32) (v : gV) (hp : p_L_law_1484 N xs K28 PK28 x5 v) (hQ : gqIV Q (f_L_law_1484 N xs K28 x5 v)) : gG E m_L_law d Q (322 * nf + 0) (2566 * nf + 0) (rS v) 1484 [(0, .ref (gva E 200)), (1, .ref (gX E + 0)), (2, .ref (gX E + 559)), (3, .ref (gX E + 570)), (4, .ref (gX E + 571)), (5, .int x5)] [] := by
  refine g_aload_n 1 dL_law_1484 rfl ?_
  obtain ⟨h199, hp⟩ := hp
  refine g_callV (rest := []) s_L_263_X11 rfl (c_X11_claimCount (E := E) (d := d - 1)   (by omega)  v h199) (by decide : kd 0 = (0, 8)) (show 0 < 572 by decide) rfl rfl (Nat.le_of_ble_eq_true rfl) (by omega) (by omega) (by omega) dL_law_1485 (adV ?_) axN
  refine g_aload_n 2 dL_law_1488 rfl ?_
  obtain ⟨h200, hp⟩ := hp
  refine g_callV (rest := [.int ((f_X11_claimCount  v))]) s_L_266_X12 rfl (c_X12_claimCount (E := E) (d := d - 1)   (by omega)  v h200) (by decide : kd 559 = (0, 9)) (show 559 < 572 by decide) rfl rfl (Nat.le_of_ble_eq_true rfl) (by omega) (by omega) (by omega) dL_law_1489 (adV ?_) axN
  refine g_room (k' := (322 * nf + 0)) (n' := (2566 * nf + 0)) (by omega) (by omega) ?_
  exact w_L_law_1492 nf N xs hN hxs hd K28 PK28 hK28 x5 ((f_X12_claimCount  v).1) (f_X11_claimCount  v) (f_X12_claimCount  v).2 hp hQ
def f_L_law_1550 (N : Nat) (xs : Nat → Int32) (K28 : Int32 → gV → Int32 × gV)  (x5 : Int32) (v : gV) : Int32 × gV := f_L_law_3401 N xs K28 x5 v
def p_L_law_1550 (N : Nat) (xs : Nat → Int32) (K28 : Int32 → gV → Int32 × gV)  (PK28 : Int32 → gV → Prop)  (x5 : Int32) (v : gV) : Prop := p_L_law_3401 N xs K28 PK28 x5 v
set_option maxHeartbeats 4000000 in
set_option maxRecDepth 100000 in
theorem w_L_law_1550 {E : gE} {d : Nat} {Q : gO → gS → Prop} (nf : Nat) (N : Nat) (xs : Nat → Int32) (hN : gva E 201 = N) (hxs : gxs E = xs) (hd : 16 ≤ d) (K28 : Int32 → gV → Int32 × gV)  (PK28 : Int32 → gV → Prop)  (hK28 : ∀ (x5 : Int32) (v : gV), PK28 x5 v → gqIV Q (K28 x5 v) → gG E m_L_law d Q (322 * nf) (2566 * nf) (rS v) 28 [(0, .ref (gva E 200)), (1, .ref (gX E + 0)), (2, .ref (gX E + 559)), (3, .ref (gX E + 570)), (4, .ref (gX E + 571)), (5, .int x5)] [])  (x5 : Int32) (v : gV) (hp : p_L_law_1550 N xs K28 PK28 x5 v) (hQ : gqIV Q (f_L_law_1550 N xs K28 x5 v)) : gG E m_L_law d Q (322 * nf + 0) (2566 * nf + 0) (rS v) 1550 [(0, .ref (gva E 200)), (1, .ref (gX E + 0)), (2, .ref (gX E + 559)), (3, .ref (gX E + 570)), (4, .ref (gX E + 571)), (5, .int x5)] [] := by
  refine g_goto 3401 dL_law_1550 (by decide) ?_
  refine g_room (k' := (322 * nf + 0)) (n' := (2566 * nf + 0)) (by omega) (by omega) ?_
  exact w_L_law_3401 nf N xs hN hxs hd K28 PK28 hK28 x5 v hp hQ
def f_L_law_1520 (N : Nat) (xs : Nat → Int32) (K28 : Int32 → gV → Int32 × gV)  (x5 : Int32) (x6 : Int32) (s0 : Int32) (v : gV) : Int32 × gV := if (f_X12_thrown  v) = x6 then (if x6 = 0 then (if (lg_cmp (v.2.1 570 (0 : Int32).toNatClampNeg) s0.toInt64) = 0 then (f_L_law_1550 N xs K28 x5 v) else (((0 : Int32), v))) else (f_L_law_1550 N xs K28 x5 v)) else (((0 : Int32), v))
def p_L_law_1520 (N : Nat) (xs : Nat → Int32) (K28 : Int32 → gV → Int32 × gV)  (PK28 : Int32 → gV → Prop)  (x5 : Int32) (x6 : Int32) (s0 : Int32) (v : gV) : Prop := (p_X12_thrown  v) ∧ ((((f_X12_thrown  v) = x6) → (((x6 = 0) → ((((lg_cmp (v.2.1 570 (0 : Int32).toNatClampNeg) s0.toInt64) = 0) → (p_L_law_1550 N xs K28 PK28 x5 v)) ∧ (¬ ((lg_cmp (v.2.1 570 (0 : Int32).toNatClampNeg) s0.toInt64) = 0) → (True)))) ∧ (¬ (x6 = 0) → (p_L_law_1550 N xs K28 PK28 x5 v)))) ∧ (¬ ((f_X12_thrown  v) = x6) → (True)))
set_option maxHeartbeats 4000000 in
set_option maxRecDepth 100000 in
theorem w_L_law_1520 {E : gE} {d : Nat} {Q : gO → gS → Prop} (nf : Nat) (N : Nat) (xs : Nat → Int32) (hN : gva E 201 = N) (hxs : gxs E = xs) (hd : 16 ≤ d) (K28 : Int32 → gV → Int32 × gV)  (PK28 : Int32 → gV → Prop)  (hK28 : ∀ (x5 : Int32) (v : gV), PK28 x5 v → gqIV Q (K28 x5 v) → gG E m_L_law d Q (322 * nf) (2566 * nf) (rS v) 28 [(0, .ref (gva E 200)), (1, .ref (gX E + 0)), (2, .ref (gX E + 559)), (3, .ref (gX E + 570)), (4, .ref (gX E + 571)), (5, .int x5)] [])  (x5 : Int32) (x6 : Int32) (s0 : Int32) (v : gV) (hp : p_L_law_1520 N xs K28 PK28 x5 x6 s0 v) (hQ : gqIV Q (f_L_law_1520 N xs K28 x5 x6 s0 v)) : gG E m_L_law d Q (322 * nf + 0) (2566 * nf + 0) (rS v) 1520 [(0, .ref (gva E 200)), (1, .ref (gX E + 0)), (2, .ref (gX E + 559)), (3, .ref (gX E + 570)), (4, .ref (gX E + 571)), (5, .int x5), (6, .int x6)] [.int s0] := by
  refine g_istore [(7, .int s0), (0, .ref (gva E 200)), (1, .ref (gX E + 0)), (2, .ref (gX E + 559)), (3, .ref (gX E + 570)), (4, .ref (gX E + 571)), (5, .int x5), (6, .int x6)] dL_law_1520 (by decide) rfl ?_
  refine g_aload_n 3 dL_law_1522 rfl ?_
  obtain ⟨h207, hp⟩ := hp
  refine g_callV (rest := []) s_L_193_X12 rfl (c_X12_thrown (E := E) (d := d - 1)   (by omega)  v h207) (by decide : kd 559 = (0, 9)) (show 559 < 572 by decide) rfl rfl (Nat.le_of_ble_eq_true rfl) (by omega) (by omega) (by omega) dL_law_1523 (adV ?_) axN
  refine g_iload 7 dL_law_1526 rfl ?_
  refine g_icmp_eq 1533 dL_law_1528 (by decide) (fun h208 => ?_) (fun h208 => ?_)
  · have hQ := qp (P := gqIV Q) h208 hQ
    have hp := hp.1 h208
    refine g_iload 7 dL_law_1533 rfl ?_
    refine g_if_ne 1550 dL_law_1535 (by decide) (fun h209 => ?_) (fun h209 => ?_)
    · have hQ := qn (P := gqIV Q) h209 hQ
      have hp := hp.2 h209
      refine g_room (k' := (322 * nf + 0)) (n' := (2566 * nf + 0)) (by omega) (by omega) ?_
      refine g_lv (lv' := [(0, .ref (gva E 200)), (1, .ref (gX E + 0)), (2, .ref (gX E + 559)), (3, .ref (gX E + 570)), (4, .ref (gX E + 571)), (5, .int x5)]) [1, 2, 3, 4, 5, 6] rfl ?_
      exact w_L_law_1550 nf N xs hN hxs hd K28 PK28 hK28 x5 v hp hQ
    · have hQ := qp (P := gqIV Q) h209 hQ
      have hp := hp.1 h209
      refine g_aload_n 4 dL_law_1538 rfl ?_
      refine g_iconst dL_law_1539 (0 : Int32) (by decide) ?_
      refine g_lald (by decide : kd 570 = (3, 1)) (show 570 < 572 by decide) (show ¬ (_ ∨ _) by decide) dL_law_1540 ?_
      refine g_iload 0 dL_law_1541 rfl ?_
      refine g_i2l dL_law_1543 ?_
      refine g_lcmp dL_law_1544 ?_
      refine g_if_eq 1550 dL_law_1545 (by decide) (fun h210 => ?_) (fun h210 => ?_)
      · have hQ := qp (P := gqIV Q) h210 hQ
        have hp := hp.1 h210
        refine g_room (k' := (322 * nf + 0)) (n' := (2566 * nf + 0)) (by omega) (by omega) ?_
        refine g_lv (lv' := [(0, .ref (gva E 200)), (1, .ref (gX E + 0)), (2, .ref (gX E + 559)), (3, .ref (gX E + 570)), (4, .ref (gX E + 571)), (5, .int x5)]) [1, 2, 3, 4, 5, 6] rfl ?_
        exact w_L_law_1550 nf N xs hN hxs hd K28 PK28 hK28 x5 v hp hQ
      · have hQ := qn (P := gqIV Q) h210 hQ
        have hp := hp.2 h210
        refine g_iconst dL_law_1548 (0 : Int32) (by decide) ?_
        exact g_zret rfl rfl dL_law_1549 hQ
  · have hQ := qn (P := gqIV Q) h208 hQ
    have hp := hp.2 h208
    refine g_iconst dL_law_1531 (0 : Int32) (by decide) ?_
    exact g_zret rfl rfl dL_law_1532 hQ
def f_L_law_1508 (N : Nat) (xs : Nat → Int32) (K28 : Int32 → gV → Int32 × gV)  (x5 : Int32) (s0 : Int32) (v : gV) : Int32 × gV := f_L_law_1520 N xs K28 x5 s0 ((f_X12_claimAt (xs (x5 + (1 : Int32)).toNatClampNeg) v).1) (f_X12_claimAt (xs (x5 + (1 : Int32)).toNatClampNeg) v).2
def p_L_law_1508 (N : Nat) (xs : Nat → Int32) (K28 : Int32 → gV → Int32 × gV)  (PK28 : Int32 → gV → Prop)  (x5 : Int32) (s0 : Int32) (v : gV) : Prop := (vp_in (x5 + (1 : Int32)) N) ∧ ((p_X12_claimAt (xs (x5 + (1 : Int32)).toNatClampNeg) v) ∧ (p_L_law_1520 N xs K28 PK28 x5 s0 ((f_X12_claimAt (xs (x5 + (1 : Int32)).toNatClampNeg) v).1) (f_X12_claimAt (xs (x5 + (1 : Int32)).toNatClampNeg) v).2))
set_option maxHeartbeats 4000000 in
set_option maxRecDepth 100000 in
theorem w_L_law_1508 {E : gE} {d : Nat} {Q : gO → gS → Prop} (nf : Nat) (N : Nat) (xs : Nat → Int32) (hN : gva E 201 = N) (hxs : gxs E = xs) (hd : 16 ≤ d) (K28 : Int32 → gV → Int32 × gV)  (PK28 : Int32 → gV → Prop)  (hK28 : ∀ (x5 : Int32) (v : gV), PK28 x5 v → gqIV Q (K28 x5 v) → gG E m_L_law d Q (322 * nf) (2566 * nf) (rS v) 28 [(0, .ref (gva E 200)), (1, .ref (gX E + 0)), (2, .ref (gX E + 559)), (3, .ref (gX E + 570)), (4, .ref (gX E + 571)), (5, .int x5)] [])  (x5 : Int32) (s0 : Int32) (v : gV) (hp : p_L_law_1508 N xs K28 PK28 x5 s0 v) (hQ : gqIV Q (f_L_law_1508 N xs K28 x5 s0 v)) : gG E m_L_law d Q (322 * nf + 0) (2566 * nf + 0) (rS v) 1508 [(0, .ref (gva E 200)), (1, .ref (gX E + 0)), (2, .ref (gX E + 559)), (3, .ref (gX E + 570)), (4, .ref (gX E + 571)), (5, .int x5)] [.int s0] := by
  refine g_istore [(6, .int s0), (0, .ref (gva E 200)), (1, .ref (gX E + 0)), (2, .ref (gX E + 559)), (3, .ref (gX E + 570)), (4, .ref (gX E + 571)), (5, .int x5)] dL_law_1508 (by decide) rfl ?_
  refine g_aload_n 3 dL_law_1510 rfl ?_
  refine g_aload_n 1 dL_law_1511 rfl ?_
  refine g_iload 6 dL_law_1512 rfl ?_
  refine g_iconst dL_law_1514 (1 : Int32) (by decide) ?_
  refine g_iadd dL_law_1515 ?_
  obtain ⟨h205, hp⟩ := hp
  refine g_sld hN hxs h205 dL_law_1516 ?_
  obtain ⟨h206, hp⟩ := hp
  refine g_callV (rest := []) s_L_269_X12 rfl (c_X12_claimAt (E := E) (d := d - 1)   (by omega) (xs (x5 + (1 : Int32)).toNatClampNeg) v h206) (by decide : kd 559 = (0, 9)) (show 559 < 572 by decide) rfl rfl (Nat.le_of_ble_eq_true rfl) (by omega) (by omega) (by omega) dL_law_1517 (adV ?_) axN
  refine g_room (k' := (322 * nf + 0)) (n' := (2566 * nf + 0)) (by omega) (by omega) ?_
  refine g_lv (lv' := [(0, .ref (gva E 200)), (1, .ref (gX E + 0)), (2, .ref (gX E + 559)), (3, .ref (gX E + 570)), (4, .ref (gX E + 571)), (5, .int x5), (6, .int s0)]) [1, 2, 3, 4, 5, 6, 0] rfl ?_
  exact w_L_law_1520 nf N xs hN hxs hd K28 PK28 hK28 x5 s0 ((f_X12_claimAt (xs (x5 + (1 : Int32)).toNatClampNeg) v).1) (f_X12_claimAt (xs (x5 + (1 : Int32)).toNatClampNeg) v).2 hp hQ
def f_L_law_1497 (N : Nat) (xs : Nat → Int32) (K28 : Int32 → gV → Int32 × gV)  (x5 : Int32) (v : gV) : Int32 × gV := f_L_law_1508 N xs K28 x5 ((f_L_claimAt (xs (x5 + (1 : Int32)).toNatClampNeg) v).1) (f_L_claimAt (xs (x5 + (1 : Int32)).toNatClampNeg) v).2
def p_L_law_1497 (N : Nat) (xs : Nat → Int32) (K28 : Int32 → gV → Int32 × gV)  (PK28 : Int32 → gV → Prop)  (x5 : Int32) (v : gV) : Prop := (vp_in (x5 + (1 : Int32)) N) ∧ ((p_L_claimAt (xs (x5 + (1 : Int32)).toNatClampNeg) v) ∧ (p_L_law_1508 N xs K28 PK28 x5 ((f_L_claimAt (xs (x5 + (1 : Int32)).toNatClampNeg) v).1) (f_L_claimAt (xs (x5 + (1 : Int32)).toNatClampNeg) v).2))
set_option maxHeartbeats 4000000 in
set_option maxRecDepth 100000 in
theorem w_L_law_1497 {E : gE} {d : Nat} {Q : gO → gS → Prop} (nf : Nat) (N : Nat) (xs : Nat → Int32) (hN : gva E 201 = N) (hxs : gxs E = xs) (hd : 16 ≤ d) (K28 : Int32 → gV → Int32 × gV)  (PK28 : Int32 → gV → Prop)  (hK28 : ∀ (x5 : Int32) (v : gV), PK28 x5 v → gqIV Q (K28 x5 v) → gG E m_L_law d Q (322 * nf) (2566 * nf) (rS v) 28 [(0, .ref (gva E 200)), (1, .ref (gX E + 0)), (2, .ref (gX E + 559)), (3, .ref (gX E + 570)), (4, .ref (gX E + 571)), (5, .int x5)] [])  (x5 : Int32) (v : gV) (hp : p_L_law_1497 N xs K28 PK28 x5 v) (hQ : gqIV Q (f_L_law_1497 N xs K28 x5 v)) : gG E m_L_law d Q (322 * nf + 1) (2566 * nf + 6) (rS v) 1497 [(0, .ref (gva E 200)), (1, .ref (gX E + 0)), (2, .ref (gX E + 559)), (3, .ref (gX E + 570)), (4, .ref (gX E + 571)), (5, .int x5)] [] := by
  refine g_aload_n 1 dL_law_1497 rfl ?_
  refine g_aload_n 0 dL_law_1498 rfl ?_
  refine g_iload 5 dL_law_1499 rfl ?_
  refine g_iconst dL_law_1501 (1 : Int32) (by decide) ?_
  refine g_iadd dL_law_1502 ?_
  obtain ⟨h203, hp⟩ := hp
  refine g_sld hN hxs h203 dL_law_1503 ?_
  refine g_aload_n 3 dL_law_1504 rfl ?_
  obtain ⟨h204, hp⟩ := hp
  refine g_callT (rest := []) s_L_267 rfl (c_L_claimAt (E := E) (d := d - 1)   (by omega) (xs (x5 + (1 : Int32)).toNatClampNeg) v h204) cqn rfl rfl (Nat.le_of_ble_eq_true rfl) (by omega) (by omega) (by omega) dL_law_1505 (adV ?_)
  refine g_room (k' := (322 * nf + 0)) (n' := (2566 * nf + 0)) (by omega) (by omega) ?_
  exact w_L_law_1508 nf N xs hN hxs hd K28 PK28 hK28 x5 ((f_L_claimAt (xs (x5 + (1 : Int32)).toNatClampNeg) v).1) (f_L_claimAt (xs (x5 + (1 : Int32)).toNatClampNeg) v).2 hp hQ
def f_L_law_1606 (N : Nat) (xs : Nat → Int32) (K28 : Int32 → gV → Int32 × gV)  (x5 : Int32) (v : gV) : Int32 × gV := f_L_law_3401 N xs K28 x5 v
def p_L_law_1606 (N : Nat) (xs : Nat → Int32) (K28 : Int32 → gV → Int32 × gV)  (PK28 : Int32 → gV → Prop)  (x5 : Int32) (v : gV) : Prop := p_L_law_3401 N xs K28 PK28 x5 v
set_option maxHeartbeats 4000000 in
set_option maxRecDepth 100000 in
theorem w_L_law_1606 {E : gE} {d : Nat} {Q : gO → gS → Prop} (nf : Nat) (N : Nat) (xs : Nat → Int32) (hN : gva E 201 = N) (hxs : gxs E = xs) (hd : 16 ≤ d) (K28 : Int32 → gV → Int32 × gV)  (PK28 : Int32 → gV → Prop)  (hK28 : ∀ (x5 : Int32) (v : gV), PK28 x5 v → gqIV Q (K28 x5 v) → gG E m_L_law d Q (322 * nf) (2566 * nf) (rS v) 28 [(0, .ref (gva E 200)), (1, .ref (gX E + 0)), (2, .ref (gX E + 559)), (3, .ref (gX E + 570)), (4, .ref (gX E + 571)), (5, .int x5)] [])  (x5 : Int32) (v : gV) (hp : p_L_law_1606 N xs K28 PK28 x5 v) (hQ : gqIV Q (f_L_law_1606 N xs K28 x5 v)) : gG E m_L_law d Q (322 * nf + 0) (2566 * nf + 0) (rS v) 1606 [(0, .ref (gva E 200)), (1, .ref (gX E + 0)), (2, .ref (gX E + 559)), (3, .ref (gX E + 570)), (4, .ref (gX E + 571)), (5, .int x5)] [] := by
  refine g_goto 3401 dL_law_1606 (by decide) ?_
  refine g_room (k' := (322 * nf + 0)) (n' := (2566 * nf + 0)) (by omega) (by omega) ?_
  exact w_L_law_3401 nf N xs hN hxs hd K28 PK28 hK28 x5 v hp hQ
def f_L_law_1576 (N : Nat) (xs : Nat → Int32) (K28 : Int32 → gV → Int32 × gV)  (x5 : Int32) (x6 : Int32) (s0 : Int32) (v : gV) : Int32 × gV := if (f_X12_thrown  v) = x6 then (if x6 = 0 then (if (lg_cmp (v.2.1 570 (0 : Int32).toNatClampNeg) s0.toInt64) = 0 then (f_L_law_1606 N xs K28 x5 v) else (((0 : Int32), v))) else (f_L_law_1606 N xs K28 x5 v)) else (((0 : Int32), v))
def p_L_law_1576 (N : Nat) (xs : Nat → Int32) (K28 : Int32 → gV → Int32 × gV)  (PK28 : Int32 → gV → Prop)  (x5 : Int32) (x6 : Int32) (s0 : Int32) (v : gV) : Prop := (p_X12_thrown  v) ∧ ((((f_X12_thrown  v) = x6) → (((x6 = 0) → ((((lg_cmp (v.2.1 570 (0 : Int32).toNatClampNeg) s0.toInt64) = 0) → (p_L_law_1606 N xs K28 PK28 x5 v)) ∧ (¬ ((lg_cmp (v.2.1 570 (0 : Int32).toNatClampNeg) s0.toInt64) = 0) → (True)))) ∧ (¬ (x6 = 0) → (p_L_law_1606 N xs K28 PK28 x5 v)))) ∧ (¬ ((f_X12_thrown  v) = x6) → (True)))
set_option maxHeartbeats 4000000 in
set_option maxRecDepth 100000 in
theorem w_L_law_1576 {E : gE} {d : Nat} {Q : gO → gS → Prop} (nf : Nat) (N : Nat) (xs : Nat → Int32) (hN : gva E 201 = N) (hxs : gxs E = xs) (hd : 16 ≤ d) (K28 : Int32 → gV → Int32 × gV)  (PK28 : Int32 → gV → Prop)  (hK28 : ∀ (x5 : Int32) (v : gV), PK28 x5 v → gqIV Q (K28 x5 v) → gG E m_L_law d Q (322 * nf) (2566 * nf) (rS v) 28 [(0, .ref (gva E 200)), (1, .ref (gX E + 0)), (2, .ref (gX E + 559)), (3, .ref (gX E + 570)), (4, .ref (gX E + 571)), (5, .int x5)] [])  (x5 : Int32) (x6 : Int32) (s0 : Int32) (v : gV) (hp : p_L_law_1576 N xs K28 PK28 x5 x6 s0 v) (hQ : gqIV Q (f_L_law_1576 N xs K28 x5 x6 s0 v)) : gG E m_L_law d Q (322 * nf + 0) (2566 * nf + 0) (rS v) 1576 [(0, .ref (gva E 200)), (1, .ref (gX E + 0)), (2, .ref (gX E + 559)), (3, .ref (gX E + 570)), (4, .ref (gX E + 571)), (5, .int x5), (6, .int x6)] [.int s0] := by
  refine g_istore [(7, .int s0), (0, .ref (gva E 200)), (1, .ref (gX E + 0)), (2, .ref (gX E + 559)), (3, .ref (gX E + 570)), (4, .ref (gX E + 571)), (5, .int x5), (6, .int x6)] dL_law_1576 (by decide) rfl ?_
  refine g_aload_n 3 dL_law_1578 rfl ?_
  obtain ⟨h216, hp⟩ := hp
  refine g_callV (rest := []) s_L_193_X12 rfl (c_X12_thrown (E := E) (d := d - 1)   (by omega)  v h216) (by decide : kd 559 = (0, 9)) (show 559 < 572 by decide) rfl rfl (Nat.le_of_ble_eq_true rfl) (by omega) (by omega) (by omega) dL_law_1579 (adV ?_) axN
  refine g_iload 7 dL_law_1582 rfl ?_
  refine g_icmp_eq 1589 dL_law_1584 (by decide) (fun h217 => ?_) (fun h217 => ?_)
  · have hQ := qp (P := gqIV Q) h217 hQ
    have hp := hp.1 h217
    refine g_iload 7 dL_law_1589 rfl ?_
    refine g_if_ne 1606 dL_law_1591 (by decide) (fun h218 => ?_) (fun h218 => ?_)
    · have hQ := qn (P := gqIV Q) h218 hQ
      have hp := hp.2 h218
      refine g_room (k' := (322 * nf + 0)) (n' := (2566 * nf + 0)) (by omega) (by omega) ?_
      refine g_lv (lv' := [(0, .ref (gva E 200)), (1, .ref (gX E + 0)), (2, .ref (gX E + 559)), (3, .ref (gX E + 570)), (4, .ref (gX E + 571)), (5, .int x5)]) [1, 2, 3, 4, 5, 6] rfl ?_
      exact w_L_law_1606 nf N xs hN hxs hd K28 PK28 hK28 x5 v hp hQ
    · have hQ := qp (P := gqIV Q) h218 hQ
      have hp := hp.1 h218
      refine g_aload_n 4 dL_law_1594 rfl ?_
      refine g_iconst dL_law_1595 (0 : Int32) (by decide) ?_
      refine g_lald (by decide : kd 570 = (3, 1)) (show 570 < 572 by decide) (show ¬ (_ ∨ _) by decide) dL_law_1596 ?_
      refine g_iload 0 dL_law_1597 rfl ?_
      refine g_i2l dL_law_1599 ?_
      refine g_lcmp dL_law_1600 ?_
      refine g_if_eq 1606 dL_law_1601 (by decide) (fun h219 => ?_) (fun h219 => ?_)
      · have hQ := qp (P := gqIV Q) h219 hQ
        have hp := hp.1 h219
        refine g_room (k' := (322 * nf + 0)) (n' := (2566 * nf + 0)) (by omega) (by omega) ?_
        refine g_lv (lv' := [(0, .ref (gva E 200)), (1, .ref (gX E + 0)), (2, .ref (gX E + 559)), (3, .ref (gX E + 570)), (4, .ref (gX E + 571)), (5, .int x5)]) [1, 2, 3, 4, 5, 6] rfl ?_
        exact w_L_law_1606 nf N xs hN hxs hd K28 PK28 hK28 x5 v hp hQ
      · have hQ := qn (P := gqIV Q) h219 hQ
        have hp := hp.2 h219
        refine g_iconst dL_law_1604 (0 : Int32) (by decide) ?_
        exact g_zret rfl rfl dL_law_1605 hQ
  · have hQ := qn (P := gqIV Q) h217 hQ
    have hp := hp.2 h217
    refine g_iconst dL_law_1587 (0 : Int32) (by decide) ?_
    exact g_zret rfl rfl dL_law_1588 hQ
def f_L_law_1564 (N : Nat) (xs : Nat → Int32) (K28 : Int32 → gV → Int32 × gV)  (x5 : Int32) (s0 : Int32) (v : gV) : Int32 × gV := f_L_law_1576 N xs K28 x5 s0 ((f_X12_policyOf (xs (x5 + (1 : Int32)).toNatClampNeg) v).1) (f_X12_policyOf (xs (x5 + (1 : Int32)).toNatClampNeg) v).2
def p_L_law_1564 (N : Nat) (xs : Nat → Int32) (K28 : Int32 → gV → Int32 × gV)  (PK28 : Int32 → gV → Prop)  (x5 : Int32) (s0 : Int32) (v : gV) : Prop := (vp_in (x5 + (1 : Int32)) N) ∧ ((p_X12_policyOf (xs (x5 + (1 : Int32)).toNatClampNeg) v) ∧ (p_L_law_1576 N xs K28 PK28 x5 s0 ((f_X12_policyOf (xs (x5 + (1 : Int32)).toNatClampNeg) v).1) (f_X12_policyOf (xs (x5 + (1 : Int32)).toNatClampNeg) v).2))
set_option maxHeartbeats 4000000 in
set_option maxRecDepth 100000 in
theorem w_L_law_1564 {E : gE} {d : Nat} {Q : gO → gS → Prop} (nf : Nat) (N : Nat) (xs : Nat → Int32) (hN : gva E 201 = N) (hxs : gxs E = xs) (hd : 16 ≤ d) (K28 : Int32 → gV → Int32 × gV)  (PK28 : Int32 → gV → Prop)  (hK28 : ∀ (x5 : Int32) (v : gV), PK28 x5 v → gqIV Q (K28 x5 v) → gG E m_L_law d Q (322 * nf) (2566 * nf) (rS v) 28 [(0, .ref (gva E 200)), (1, .ref (gX E + 0)), (2, .ref (gX E + 559)), (3, .ref (gX E + 570)), (4, .ref (gX E + 571)), (5, .int x5)] [])  (x5 : Int32) (s0 : Int32) (v : gV) (hp : p_L_law_1564 N xs K28 PK28 x5 s0 v) (hQ : gqIV Q (f_L_law_1564 N xs K28 x5 s0 v)) : gG E m_L_law d Q (322 * nf + 0) (2566 * nf + 0) (rS v) 1564 [(0, .ref (gva E 200)), (1, .ref (gX E + 0)), (2, .ref (gX E + 559)), (3, .ref (gX E + 570)), (4, .ref (gX E + 571)), (5, .int x5)] [.int s0] := by
  refine g_istore [(6, .int s0), (0, .ref (gva E 200)), (1, .ref (gX E + 0)), (2, .ref (gX E + 559)), (3, .ref (gX E + 570)), (4, .ref (gX E + 571)), (5, .int x5)] dL_law_1564 (by decide) rfl ?_
  refine g_aload_n 3 dL_law_1566 rfl ?_
  refine g_aload_n 1 dL_law_1567 rfl ?_
  refine g_iload 6 dL_law_1568 rfl ?_
  refine g_iconst dL_law_1570 (1 : Int32) (by decide) ?_
  refine g_iadd dL_law_1571 ?_
  obtain ⟨h214, hp⟩ := hp
  refine g_sld hN hxs h214 dL_law_1572 ?_
  obtain ⟨h215, hp⟩ := hp
  refine g_callV (rest := []) s_L_272_X12 rfl (c_X12_policyOf (E := E) (d := d - 1)   (by omega) (xs (x5 + (1 : Int32)).toNatClampNeg) v h215) (by decide : kd 559 = (0, 9)) (show 559 < 572 by decide) rfl rfl (Nat.le_of_ble_eq_true rfl) (by omega) (by omega) (by omega) dL_law_1573 (adV ?_) axN
  refine g_room (k' := (322 * nf + 0)) (n' := (2566 * nf + 0)) (by omega) (by omega) ?_
  refine g_lv (lv' := [(0, .ref (gva E 200)), (1, .ref (gX E + 0)), (2, .ref (gX E + 559)), (3, .ref (gX E + 570)), (4, .ref (gX E + 571)), (5, .int x5), (6, .int s0)]) [1, 2, 3, 4, 5, 6, 0] rfl ?_
  exact w_L_law_1576 nf N xs hN hxs hd K28 PK28 hK28 x5 s0 ((f_X12_policyOf (xs (x5 + (1 : Int32)).toNatClampNeg) v).1) (f_X12_policyOf (xs (x5 + (1 : Int32)).toNatClampNeg) v).2 hp hQ
def f_L_law_1553 (N : Nat) (xs : Nat → Int32) (K28 : Int32 → gV → Int32 × gV)  (x5 : Int32) (v : gV) : Int32 × gV := f_L_law_1564 N xs K28 x5 ((f_L_policyOf (xs (x5 + (1 : Int32)).toNatClampNeg) v).1) (f_L_policyOf (xs (x5 + (1 : Int32)).toNatClampNeg) v).2
def p_L_law_1553 (N : Nat) (xs : Nat → Int32) (K28 : Int32 → gV → Int32 × gV)  (PK28 : Int32 → gV → Prop)  (x5 : Int32) (v : gV) : Prop := (vp_in (x5 + (1 : Int32)) N) ∧ ((p_L_policyOf (xs (x5 + (1 : Int32)).toNatClampNeg) v) ∧ (p_L_law_1564 N xs K28 PK28 x5 ((f_L_policyOf (xs (x5 + (1 : Int32)).toNatClampNeg) v).1) (f_L_policyOf (xs (x5 + (1 : Int32)).toNatClampNeg) v).2))
set_option maxHeartbeats 4000000 in
set_option maxRecDepth 100000 in
theorem w_L_law_1553 {E : gE} {d : Nat} {Q : gO → gS → Prop} (nf : Nat) (N : Nat) (xs : Nat → Int32) (hN : gva E 201 = N) (hxs : gxs E = xs) (hd : 16 ≤ d) (K28 : Int32 → gV → Int32 × gV)  (PK28 : Int32 → gV → Prop)  (hK28 : ∀ (x5 : Int32) (v : gV), PK28 x5 v → gqIV Q (K28 x5 v) → gG E m_L_law d Q (322 * nf) (2566 * nf) (rS v) 28 [(0, .ref (gva E 200)), (1, .ref (gX E + 0)), (2, .ref (gX E + 559)), (3, .ref (gX E + 570)), (4, .ref (gX E + 571)), (5, .int x5)] [])  (x5 : Int32) (v : gV) (hp : p_L_law_1553 N xs K28 PK28 x5 v) (hQ : gqIV Q (f_L_law_1553 N xs K28 x5 v)) : gG E m_L_law d Q (322 * nf + 1) (2566 * nf + 6) (rS v) 1553 [(0, .ref (gva E 200)), (1, .ref (gX E + 0)), (2, .ref (gX E + 559)), (3, .ref (gX E + 570)), (4, .ref (gX E + 571)), (5, .int x5)] [] := by
  refine g_aload_n 1 dL_law_1553 rfl ?_
  refine g_aload_n 0 dL_law_1554 rfl ?_
  refine g_iload 5 dL_law_1555 rfl ?_
  refine g_iconst dL_law_1557 (1 : Int32) (by decide) ?_
  refine g_iadd dL_law_1558 ?_
  obtain ⟨h212, hp⟩ := hp
  refine g_sld hN hxs h212 dL_law_1559 ?_
  refine g_aload_n 3 dL_law_1560 rfl ?_
  obtain ⟨h213, hp⟩ := hp
  refine g_callT (rest := []) s_L_270 rfl (c_L_policyOf (E := E) (d := d - 1)   (by omega) (xs (x5 + (1 : Int32)).toNatClampNeg) v h213) cqn rfl rfl (Nat.le_of_ble_eq_true rfl) (by omega) (by omega) (by omega) dL_law_1561 (adV ?_)
  refine g_room (k' := (322 * nf + 0)) (n' := (2566 * nf + 0)) (by omega) (by omega) ?_
  exact w_L_law_1564 nf N xs hN hxs hd K28 PK28 hK28 x5 ((f_L_policyOf (xs (x5 + (1 : Int32)).toNatClampNeg) v).1) (f_L_policyOf (xs (x5 + (1 : Int32)).toNatClampNeg) v).2 hp hQ
def f_L_law_1662 (N : Nat) (xs : Nat → Int32) (K28 : Int32 → gV → Int32 × gV)  (x5 : Int32) (v : gV) : Int32 × gV := f_L_law_3401 N xs K28 x5 v
def p_L_law_1662 (N : Nat) (xs : Nat → Int32) (K28 : Int32 → gV → Int32 × gV)  (PK28 : Int32 → gV → Prop)  (x5 : Int32) (v : gV) : Prop := p_L_law_3401 N xs K28 PK28 x5 v
set_option maxHeartbeats 4000000 in
set_option maxRecDepth 100000 in
theorem w_L_law_1662 {E : gE} {d : Nat} {Q : gO → gS → Prop} (nf : Nat) (N : Nat) (xs : Nat → Int32) (hN : gva E 201 = N) (hxs : gxs E = xs) (hd : 16 ≤ d) (K28 : Int32 → gV → Int32 × gV)  (PK28 : Int32 → gV → Prop)  (hK28 : ∀ (x5 : Int32) (v : gV), PK28 x5 v → gqIV Q (K28 x5 v) → gG E m_L_law d Q (322 * nf) (2566 * nf) (rS v) 28 [(0, .ref (gva E 200)), (1, .ref (gX E + 0)), (2, .ref (gX E + 559)), (3, .ref (gX E + 570)), (4, .ref (gX E + 571)), (5, .int x5)] [])  (x5 : Int32) (v : gV) (hp : p_L_law_1662 N xs K28 PK28 x5 v) (hQ : gqIV Q (f_L_law_1662 N xs K28 x5 v)) : gG E m_L_law d Q (322 * nf + 0) (2566 * nf + 0) (rS v) 1662 [(0, .ref (gva E 200)), (1, .ref (gX E + 0)), (2, .ref (gX E + 559)), (3, .ref (gX E + 570)), (4, .ref (gX E + 571)), (5, .int x5)] [] := by
  refine g_goto 3401 dL_law_1662 (by decide) ?_
  refine g_room (k' := (322 * nf + 0)) (n' := (2566 * nf + 0)) (by omega) (by omega) ?_
  exact w_L_law_3401 nf N xs hN hxs hd K28 PK28 hK28 x5 v hp hQ
def f_L_law_1632 (N : Nat) (xs : Nat → Int32) (K28 : Int32 → gV → Int32 × gV)  (x5 : Int32) (x6 : Int32) (s0 : Int32) (v : gV) : Int32 × gV := if (f_X12_thrown  v) = x6 then (if x6 = 0 then (if (lg_cmp (v.2.1 570 (0 : Int32).toNatClampNeg) s0.toInt64) = 0 then (f_L_law_1662 N xs K28 x5 v) else (((0 : Int32), v))) else (f_L_law_1662 N xs K28 x5 v)) else (((0 : Int32), v))
def p_L_law_1632 (N : Nat) (xs : Nat → Int32) (K28 : Int32 → gV → Int32 × gV)  (PK28 : Int32 → gV → Prop)  (x5 : Int32) (x6 : Int32) (s0 : Int32) (v : gV) : Prop := (p_X12_thrown  v) ∧ ((((f_X12_thrown  v) = x6) → (((x6 = 0) → ((((lg_cmp (v.2.1 570 (0 : Int32).toNatClampNeg) s0.toInt64) = 0) → (p_L_law_1662 N xs K28 PK28 x5 v)) ∧ (¬ ((lg_cmp (v.2.1 570 (0 : Int32).toNatClampNeg) s0.toInt64) = 0) → (True)))) ∧ (¬ (x6 = 0) → (p_L_law_1662 N xs K28 PK28 x5 v)))) ∧ (¬ ((f_X12_thrown  v) = x6) → (True)))
set_option maxHeartbeats 4000000 in
set_option maxRecDepth 100000 in
theorem w_L_law_1632 {E : gE} {d : Nat} {Q : gO → gS → Prop} (nf : Nat) (N : Nat) (xs : Nat → Int32) (hN : gva E 201 = N) (hxs : gxs E = xs) (hd : 16 ≤ d) (K28 : Int32 → gV → Int32 × gV)  (PK28 : Int32 → gV → Prop)  (hK28 : ∀ (x5 : Int32) (v : gV), PK28 x5 v → gqIV Q (K28 x5 v) → gG E m_L_law d Q (322 * nf) (2566 * nf) (rS v) 28 [(0, .ref (gva E 200)), (1, .ref (gX E + 0)), (2, .ref (gX E + 559)), (3, .ref (gX E + 570)), (4, .ref (gX E + 571)), (5, .int x5)] [])  (x5 : Int32) (x6 : Int32) (s0 : Int32) (v : gV) (hp : p_L_law_1632 N xs K28 PK28 x5 x6 s0 v) (hQ : gqIV Q (f_L_law_1632 N xs K28 x5 x6 s0 v)) : gG E m_L_law d Q (322 * nf + 0) (2566 * nf + 0) (rS v) 1632 [(0, .ref (gva E 200)), (1, .ref (gX E + 0)), (2, .ref (gX E + 559)), (3, .ref (gX E + 570)), (4, .ref (gX E + 571)), (5, .int x5), (6, .int x6)] [.int s0] := by
  refine g_istore [(7, .int s0), (0, .ref (gva E 200)), (1, .ref (gX E + 0)), (2, .ref (gX E + 559)), (3, .ref (gX E + 570)), (4, .ref (gX E + 571)), (5, .int x5), (6, .int x6)] dL_law_1632 (by decide) rfl ?_
  refine g_aload_n 3 dL_law_1634 rfl ?_
  obtain ⟨h225, hp⟩ := hp
  refine g_callV (rest := []) s_L_193_X12 rfl (c_X12_thrown (E := E) (d := d - 1)   (by omega)  v h225) (by decide : kd 559 = (0, 9)) (show 559 < 572 by decide) rfl rfl (Nat.le_of_ble_eq_true rfl) (by omega) (by omega) (by omega) dL_law_1635 (adV ?_) axN
  refine g_iload 7 dL_law_1638 rfl ?_
  refine g_icmp_eq 1645 dL_law_1640 (by decide) (fun h226 => ?_) (fun h226 => ?_)
  · have hQ := qp (P := gqIV Q) h226 hQ
    have hp := hp.1 h226
    refine g_iload 7 dL_law_1645 rfl ?_
    refine g_if_ne 1662 dL_law_1647 (by decide) (fun h227 => ?_) (fun h227 => ?_)
    · have hQ := qn (P := gqIV Q) h227 hQ
      have hp := hp.2 h227
      refine g_room (k' := (322 * nf + 0)) (n' := (2566 * nf + 0)) (by omega) (by omega) ?_
      refine g_lv (lv' := [(0, .ref (gva E 200)), (1, .ref (gX E + 0)), (2, .ref (gX E + 559)), (3, .ref (gX E + 570)), (4, .ref (gX E + 571)), (5, .int x5)]) [1, 2, 3, 4, 5, 6] rfl ?_
      exact w_L_law_1662 nf N xs hN hxs hd K28 PK28 hK28 x5 v hp hQ
    · have hQ := qp (P := gqIV Q) h227 hQ
      have hp := hp.1 h227
      refine g_aload_n 4 dL_law_1650 rfl ?_
      refine g_iconst dL_law_1651 (0 : Int32) (by decide) ?_
      refine g_lald (by decide : kd 570 = (3, 1)) (show 570 < 572 by decide) (show ¬ (_ ∨ _) by decide) dL_law_1652 ?_
      refine g_iload 0 dL_law_1653 rfl ?_
      refine g_i2l dL_law_1655 ?_
      refine g_lcmp dL_law_1656 ?_
      refine g_if_eq 1662 dL_law_1657 (by decide) (fun h228 => ?_) (fun h228 => ?_)
      · have hQ := qp (P := gqIV Q) h228 hQ
        have hp := hp.1 h228
        refine g_room (k' := (322 * nf + 0)) (n' := (2566 * nf + 0)) (by omega) (by omega) ?_
        refine g_lv (lv' := [(0, .ref (gva E 200)), (1, .ref (gX E + 0)), (2, .ref (gX E + 559)), (3, .ref (gX E + 570)), (4, .ref (gX E + 571)), (5, .int x5)]) [1, 2, 3, 4, 5, 6] rfl ?_
        exact w_L_law_1662 nf N xs hN hxs hd K28 PK28 hK28 x5 v hp hQ
      · have hQ := qn (P := gqIV Q) h228 hQ
        have hp := hp.2 h228
        refine g_iconst dL_law_1660 (0 : Int32) (by decide) ?_
        exact g_zret rfl rfl dL_law_1661 hQ
  · have hQ := qn (P := gqIV Q) h226 hQ
    have hp := hp.2 h226
    refine g_iconst dL_law_1643 (0 : Int32) (by decide) ?_
    exact g_zret rfl rfl dL_law_1644 hQ
def f_L_law_1620 (N : Nat) (xs : Nat → Int32) (K28 : Int32 → gV → Int32 × gV)  (x5 : Int32) (s0 : Int32) (v : gV) : Int32 × gV := f_L_law_1632 N xs K28 x5 s0 ((f_X12_causeOf (xs (x5 + (1 : Int32)).toNatClampNeg) v).1) (f_X12_causeOf (xs (x5 + (1 : Int32)).toNatClampNeg) v).2
def p_L_law_1620 (N : Nat) (xs : Nat → Int32) (K28 : Int32 → gV → Int32 × gV)  (PK28 : Int32 → gV → Prop)  (x5 : Int32) (s0 : Int32) (v : gV) : Prop := (vp_in (x5 + (1 : Int32)) N) ∧ ((p_X12_causeOf (xs (x5 + (1 : Int32)).toNatClampNeg) v) ∧ (p_L_law_1632 N xs K28 PK28 x5 s0 ((f_X12_causeOf (xs (x5 + (1 : Int32)).toNatClampNeg) v).1) (f_X12_causeOf (xs (x5 + (1 : Int32)).toNatClampNeg) v).2))
set_option maxHeartbeats 4000000 in
set_option maxRecDepth 100000 in
theorem w_L_law_1620 {E : gE} {d : Nat} {Q : gO → gS → Prop} (nf : Nat) (N : Nat) (xs : Nat → Int32) (hN : gva E 201 = N) (hxs : gxs E = xs) (hd : 16 ≤ d) (K28 : Int32 → gV → Int32 × gV)  (PK28 : Int32 → gV → Prop)  (hK28 : ∀ (x5 : Int32) (v : gV), PK28 x5 v → gqIV Q (K28 x5 v) → gG E m_L_law d Q (322 * nf) (2566 * nf) (rS v) 28 [(0, .ref (gva E 200)), (1, .ref (gX E + 0)), (2, .ref (gX E + 559)), (3, .ref (gX E + 570)), (4, .ref (gX E + 571)), (5, .int x5)] [])  (x5 : Int32) (s0 : Int32) (v : gV) (hp : p_L_law_1620 N xs K28 PK28 x5 s0 v) (hQ : gqIV Q (f_L_law_1620 N xs K28 x5 s0 v)) : gG E m_L_law d Q (322 * nf + 0) (2566 * nf + 0) (rS v) 1620 [(0, .ref (gva E 200)), (1, .ref (gX E + 0)), (2, .ref (gX E + 559)), (3, .ref (gX E + 570)), (4, .ref (gX E + 571)), (5, .int x5)] [.int s0] := by
  refine g_istore [(6, .int s0), (0, .ref (gva E 200)), (1, .ref (gX E + 0)), (2, .ref (gX E + 559)), (3, .ref (gX E + 570)), (4, .ref (gX E + 571)), (5, .int x5)] dL_law_1620 (by decide) rfl ?_
  refine g_aload_n 3 dL_law_1622 rfl ?_
  refine g_aload_n 1 dL_law_1623 rfl ?_
  refine g_iload 6 dL_law_1624 rfl ?_
  refine g_iconst dL_law_1626 (1 : Int32) (by decide) ?_
  refine g_iadd dL_law_1627 ?_
  obtain ⟨h223, hp⟩ := hp
  refine g_sld hN hxs h223 dL_law_1628 ?_
  obtain ⟨h224, hp⟩ := hp
  refine g_callV (rest := []) s_L_275_X12 rfl (c_X12_causeOf (E := E) (d := d - 1)   (by omega) (xs (x5 + (1 : Int32)).toNatClampNeg) v h224) (by decide : kd 559 = (0, 9)) (show 559 < 572 by decide) rfl rfl (Nat.le_of_ble_eq_true rfl) (by omega) (by omega) (by omega) dL_law_1629 (adV ?_) axN
  refine g_room (k' := (322 * nf + 0)) (n' := (2566 * nf + 0)) (by omega) (by omega) ?_
  refine g_lv (lv' := [(0, .ref (gva E 200)), (1, .ref (gX E + 0)), (2, .ref (gX E + 559)), (3, .ref (gX E + 570)), (4, .ref (gX E + 571)), (5, .int x5), (6, .int s0)]) [1, 2, 3, 4, 5, 6, 0] rfl ?_
  exact w_L_law_1632 nf N xs hN hxs hd K28 PK28 hK28 x5 s0 ((f_X12_causeOf (xs (x5 + (1 : Int32)).toNatClampNeg) v).1) (f_X12_causeOf (xs (x5 + (1 : Int32)).toNatClampNeg) v).2 hp hQ
def f_L_law_1609 (N : Nat) (xs : Nat → Int32) (K28 : Int32 → gV → Int32 × gV)  (x5 : Int32) (v : gV) : Int32 × gV := f_L_law_1620 N xs K28 x5 ((f_L_causeOf (xs (x5 + (1 : Int32)).toNatClampNeg) v).1) (f_L_causeOf (xs (x5 + (1 : Int32)).toNatClampNeg) v).2
def p_L_law_1609 (N : Nat) (xs : Nat → Int32) (K28 : Int32 → gV → Int32 × gV)  (PK28 : Int32 → gV → Prop)  (x5 : Int32) (v : gV) : Prop := (vp_in (x5 + (1 : Int32)) N) ∧ ((p_L_causeOf (xs (x5 + (1 : Int32)).toNatClampNeg) v) ∧ (p_L_law_1620 N xs K28 PK28 x5 ((f_L_causeOf (xs (x5 + (1 : Int32)).toNatClampNeg) v).1) (f_L_causeOf (xs (x5 + (1 : Int32)).toNatClampNeg) v).2))
set_option maxHeartbeats 4000000 in
set_option maxRecDepth 100000 in
theorem w_L_law_1609 {E : gE} {d : Nat} {Q : gO → gS → Prop} (nf : Nat) (N : Nat) (xs : Nat → Int32) (hN : gva E 201 = N) (hxs : gxs E = xs) (hd : 16 ≤ d) (K28 : Int32 → gV → Int32 × gV)  (PK28 : Int32 → gV → Prop)  (hK28 : ∀ (x5 : Int32) (v : gV), PK28 x5 v → gqIV Q (K28 x5 v) → gG E m_L_law d Q (322 * nf) (2566 * nf) (rS v) 28 [(0, .ref (gva E 200)), (1, .ref (gX E + 0)), (2, .ref (gX E + 559)), (3, .ref (gX E + 570)), (4, .ref (gX E + 571)), (5, .int x5)] [])  (x5 : Int32) (v : gV) (hp : p_L_law_1609 N xs K28 PK28 x5 v) (hQ : gqIV Q (f_L_law_1609 N xs K28 x5 v)) : gG E m_L_law d Q (322 * nf + 1) (2566 * nf + 6) (rS v) 1609 [(0, .ref (gva E 200)), (1, .ref (gX E + 0)), (2, .ref (gX E + 559)), (3, .ref (gX E + 570)), (4, .ref (gX E + 571)), (5, .int x5)] [] := by
  refine g_aload_n 1 dL_law_1609 rfl ?_
  refine g_aload_n 0 dL_law_1610 rfl ?_
  refine g_iload 5 dL_law_1611 rfl ?_
  refine g_iconst dL_law_1613 (1 : Int32) (by decide) ?_
  refine g_iadd dL_law_1614 ?_
  obtain ⟨h221, hp⟩ := hp
  refine g_sld hN hxs h221 dL_law_1615 ?_
  refine g_aload_n 3 dL_law_1616 rfl ?_
  obtain ⟨h222, hp⟩ := hp
  refine g_callT (rest := []) s_L_273 rfl (c_L_causeOf (E := E) (d := d - 1)   (by omega) (xs (x5 + (1 : Int32)).toNatClampNeg) v h222) cqn rfl rfl (Nat.le_of_ble_eq_true rfl) (by omega) (by omega) (by omega) dL_law_1617 (adV ?_)
  refine g_room (k' := (322 * nf + 0)) (n' := (2566 * nf + 0)) (by omega) (by omega) ?_
  exact w_L_law_1620 nf N xs hN hxs hd K28 PK28 hK28 x5 ((f_L_causeOf (xs (x5 + (1 : Int32)).toNatClampNeg) v).1) (f_L_causeOf (xs (x5 + (1 : Int32)).toNatClampNeg) v).2 hp hQ
def f_L_law_1718 (N : Nat) (xs : Nat → Int32) (K28 : Int32 → gV → Int32 × gV)  (x5 : Int32) (v : gV) : Int32 × gV := f_L_law_3401 N xs K28 x5 v
def p_L_law_1718 (N : Nat) (xs : Nat → Int32) (K28 : Int32 → gV → Int32 × gV)  (PK28 : Int32 → gV → Prop)  (x5 : Int32) (v : gV) : Prop := p_L_law_3401 N xs K28 PK28 x5 v
set_option maxHeartbeats 4000000 in
set_option maxRecDepth 100000 in
theorem w_L_law_1718 {E : gE} {d : Nat} {Q : gO → gS → Prop} (nf : Nat) (N : Nat) (xs : Nat → Int32) (hN : gva E 201 = N) (hxs : gxs E = xs) (hd : 16 ≤ d) (K28 : Int32 → gV → Int32 × gV)  (PK28 : Int32 → gV → Prop)  (hK28 : ∀ (x5 : Int32) (v : gV), PK28 x5 v → gqIV Q (K28 x5 v) → gG E m_L_law d Q (322 * nf) (2566 * nf) (rS v) 28 [(0, .ref (gva E 200)), (1, .ref (gX E + 0)), (2, .ref (gX E + 559)), (3, .ref (gX E + 570)), (4, .ref (gX E + 571)), (5, .int x5)] [])  (x5 : Int32) (v : gV) (hp : p_L_law_1718 N xs K28 PK28 x5 v) (hQ : gqIV Q (f_L_law_1718 N xs K28 x5 v)) : gG E m_L_law d Q (322 * nf + 0) (2566 * nf + 0) (rS v) 1718 [(0, .ref (gva E 200)), (1, .ref (gX E + 0)), (2, .ref (gX E + 559)), (3, .ref (gX E + 570)), (4, .ref (gX E + 571)), (5, .int x5)] [] := by
  refine g_goto 3401 dL_law_1718 (by decide) ?_
  refine g_room (k' := (322 * nf + 0)) (n' := (2566 * nf + 0)) (by omega) (by omega) ?_
  exact w_L_law_3401 nf N xs hN hxs hd K28 PK28 hK28 x5 v hp hQ
def f_L_law_1688 (N : Nat) (xs : Nat → Int32) (K28 : Int32 → gV → Int32 × gV)  (x5 : Int32) (x6 : Int32) (s0 : Int32) (v : gV) : Int32 × gV := if (f_X12_thrown  v) = x6 then (if x6 = 0 then (if (lg_cmp (v.2.1 570 (0 : Int32).toNatClampNeg) s0.toInt64) = 0 then (f_L_law_1718 N xs K28 x5 v) else (((0 : Int32), v))) else (f_L_law_1718 N xs K28 x5 v)) else (((0 : Int32), v))
def p_L_law_1688 (N : Nat) (xs : Nat → Int32) (K28 : Int32 → gV → Int32 × gV)  (PK28 : Int32 → gV → Prop)  (x5 : Int32) (x6 : Int32) (s0 : Int32) (v : gV) : Prop := (p_X12_thrown  v) ∧ ((((f_X12_thrown  v) = x6) → (((x6 = 0) → ((((lg_cmp (v.2.1 570 (0 : Int32).toNatClampNeg) s0.toInt64) = 0) → (p_L_law_1718 N xs K28 PK28 x5 v)) ∧ (¬ ((lg_cmp (v.2.1 570 (0 : Int32).toNatClampNeg) s0.toInt64) = 0) → (True)))) ∧ (¬ (x6 = 0) → (p_L_law_1718 N xs K28 PK28 x5 v)))) ∧ (¬ ((f_X12_thrown  v) = x6) → (True)))
set_option maxHeartbeats 4000000 in
set_option maxRecDepth 100000 in
theorem w_L_law_1688 {E : gE} {d : Nat} {Q : gO → gS → Prop} (nf : Nat) (N : Nat) (xs : Nat → Int32) (hN : gva E 201 = N) (hxs : gxs E = xs) (hd : 16 ≤ d) (K28 : Int32 → gV → Int32 × gV)  (PK28 : Int32 → gV → Prop)  (hK28 : ∀ (x5 : Int32) (v : gV), PK28 x5 v → gqIV Q (K28 x5 v) → gG E m_L_law d Q (322 * nf) (2566 * nf) (rS v) 28 [(0, .ref (gva E 200)), (1, .ref (gX E + 0)), (2, .ref (gX E + 559)), (3, .ref (gX E + 570)), (4, .ref (gX E + 571)), (5, .int x5)] [])  (x5 : Int32) (x6 : Int32) (s0 : Int32) (v : gV) (hp : p_L_law_1688 N xs K28 PK28 x5 x6 s0 v) (hQ : gqIV Q (f_L_law_1688 N xs K28 x5 x6 s0 v)) : gG E m_L_law d Q (322 * nf + 0) (2566 * nf + 0) (rS v) 1688 [(0, .ref (gva E 200)), (1, .ref (gX E + 0)), (2, .ref (gX E + 559)), (3, .ref (gX E + 570)), (4, .ref (gX E + 571)), (5, .int x5), (6, .int x6)] [.int s0] := by
  refine g_istore [(7, .int s0), (0, .ref (gva E 200)), (1, .ref (gX E + 0)), (2, .ref (gX E + 559)), (3, .ref (gX E + 570)), (4, .ref (gX E + 571)), (5, .int x5), (6, .int x6)] dL_law_1688 (by decide) rfl ?_
  refine g_aload_n 3 dL_law_1690 rfl ?_
  obtain ⟨h234, hp⟩ := hp
  refine g_callV (rest := []) s_L_193_X12 rfl (c_X12_thrown (E := E) (d := d - 1)   (by omega)  v h234) (by decide : kd 559 = (0, 9)) (show 559 < 572 by decide) rfl rfl (Nat.le_of_ble_eq_true rfl) (by omega) (by omega) (by omega) dL_law_1691 (adV ?_) axN
  refine g_iload 7 dL_law_1694 rfl ?_
  refine g_icmp_eq 1701 dL_law_1696 (by decide) (fun h235 => ?_) (fun h235 => ?_)
  · have hQ := qp (P := gqIV Q) h235 hQ
    have hp := hp.1 h235
    refine g_iload 7 dL_law_1701 rfl ?_
    refine g_if_ne 1718 dL_law_1703 (by decide) (fun h236 => ?_) (fun h236 => ?_)
    · have hQ := qn (P := gqIV Q) h236 hQ
      have hp := hp.2 h236
      refine g_room (k' := (322 * nf + 0)) (n' := (2566 * nf + 0)) (by omega) (by omega) ?_
      refine g_lv (lv' := [(0, .ref (gva E 200)), (1, .ref (gX E + 0)), (2, .ref (gX E + 559)), (3, .ref (gX E + 570)), (4, .ref (gX E + 571)), (5, .int x5)]) [1, 2, 3, 4, 5, 6] rfl ?_
      exact w_L_law_1718 nf N xs hN hxs hd K28 PK28 hK28 x5 v hp hQ
    · have hQ := qp (P := gqIV Q) h236 hQ
      have hp := hp.1 h236
      refine g_aload_n 4 dL_law_1706 rfl ?_
      refine g_iconst dL_law_1707 (0 : Int32) (by decide) ?_
      refine g_lald (by decide : kd 570 = (3, 1)) (show 570 < 572 by decide) (show ¬ (_ ∨ _) by decide) dL_law_1708 ?_
      refine g_iload 0 dL_law_1709 rfl ?_
      refine g_i2l dL_law_1711 ?_
      refine g_lcmp dL_law_1712 ?_
      refine g_if_eq 1718 dL_law_1713 (by decide) (fun h237 => ?_) (fun h237 => ?_)
      · have hQ := qp (P := gqIV Q) h237 hQ
        have hp := hp.1 h237
        refine g_room (k' := (322 * nf + 0)) (n' := (2566 * nf + 0)) (by omega) (by omega) ?_
        refine g_lv (lv' := [(0, .ref (gva E 200)), (1, .ref (gX E + 0)), (2, .ref (gX E + 559)), (3, .ref (gX E + 570)), (4, .ref (gX E + 571)), (5, .int x5)]) [1, 2, 3, 4, 5, 6] rfl ?_
        exact w_L_law_1718 nf N xs hN hxs hd K28 PK28 hK28 x5 v hp hQ
      · have hQ := qn (P := gqIV Q) h237 hQ
        have hp := hp.2 h237
        refine g_iconst dL_law_1716 (0 : Int32) (by decide) ?_
        exact g_zret rfl rfl dL_law_1717 hQ
  · have hQ := qn (P := gqIV Q) h235 hQ
    have hp := hp.2 h235
    refine g_iconst dL_law_1699 (0 : Int32) (by decide) ?_
    exact g_zret rfl rfl dL_law_1700 hQ
def f_L_law_1676 (N : Nat) (xs : Nat → Int32) (K28 : Int32 → gV → Int32 × gV)  (x5 : Int32) (s0 : Int32) (v : gV) : Int32 × gV := f_L_law_1688 N xs K28 x5 s0 ((f_X12_amountOf (xs (x5 + (1 : Int32)).toNatClampNeg) v).1) (f_X12_amountOf (xs (x5 + (1 : Int32)).toNatClampNeg) v).2
def p_L_law_1676 (N : Nat) (xs : Nat → Int32) (K28 : Int32 → gV → Int32 × gV)  (PK28 : Int32 → gV → Prop)  (x5 : Int32) (s0 : Int32) (v : gV) : Prop := (vp_in (x5 + (1 : Int32)) N) ∧ ((p_X12_amountOf (xs (x5 + (1 : Int32)).toNatClampNeg) v) ∧ (p_L_law_1688 N xs K28 PK28 x5 s0 ((f_X12_amountOf (xs (x5 + (1 : Int32)).toNatClampNeg) v).1) (f_X12_amountOf (xs (x5 + (1 : Int32)).toNatClampNeg) v).2))
set_option maxHeartbeats 4000000 in
set_option maxRecDepth 100000 in
theorem w_L_law_1676 {E : gE} {d : Nat} {Q : gO → gS → Prop} (nf : Nat) (N : Nat) (xs : Nat → Int32) (hN : gva E 201 = N) (hxs : gxs E = xs) (hd : 16 ≤ d) (K28 : Int32 → gV → Int32 × gV)  (PK28 : Int32 → gV → Prop)  (hK28 : ∀ (x5 : Int32) (v : gV), PK28 x5 v → gqIV Q (K28 x5 v) → gG E m_L_law d Q (322 * nf) (2566 * nf) (rS v) 28 [(0, .ref (gva E 200)), (1, .ref (gX E + 0)), (2, .ref (gX E + 559)), (3, .ref (gX E + 570)), (4, .ref (gX E + 571)), (5, .int x5)] [])  (x5 : Int32) (s0 : Int32) (v : gV) (hp : p_L_law_1676 N xs K28 PK28 x5 s0 v) (hQ : gqIV Q (f_L_law_1676 N xs K28 x5 s0 v)) : gG E m_L_law d Q (322 * nf + 0) (2566 * nf + 0) (rS v) 1676 [(0, .ref (gva E 200)), (1, .ref (gX E + 0)), (2, .ref (gX E + 559)), (3, .ref (gX E + 570)), (4, .ref (gX E + 571)), (5, .int x5)] [.int s0] := by
  refine g_istore [(6, .int s0), (0, .ref (gva E 200)), (1, .ref (gX E + 0)), (2, .ref (gX E + 559)), (3, .ref (gX E + 570)), (4, .ref (gX E + 571)), (5, .int x5)] dL_law_1676 (by decide) rfl ?_
  refine g_aload_n 3 dL_law_1678 rfl ?_
  refine g_aload_n 1 dL_law_1679 rfl ?_
  refine g_iload 6 dL_law_1680 rfl ?_
  refine g_iconst dL_law_1682 (1 : Int32) (by decide) ?_
  refine g_iadd dL_law_1683 ?_
  obtain ⟨h232, hp⟩ := hp
  refine g_sld hN hxs h232 dL_law_1684 ?_
  obtain ⟨h233, hp⟩ := hp
  refine g_callV (rest := []) s_L_278_X12 rfl (c_X12_amountOf (E := E) (d := d - 1)   (by omega) (xs (x5 + (1 : Int32)).toNatClampNeg) v h233) (by decide : kd 559 = (0, 9)) (show 559 < 572 by decide) rfl rfl (Nat.le_of_ble_eq_true rfl) (by omega) (by omega) (by omega) dL_law_1685 (adV ?_) axN
  refine g_room (k' := (322 * nf + 0)) (n' := (2566 * nf + 0)) (by omega) (by omega) ?_
  refine g_lv (lv' := [(0, .ref (gva E 200)), (1, .ref (gX E + 0)), (2, .ref (gX E + 559)), (3, .ref (gX E + 570)), (4, .ref (gX E + 571)), (5, .int x5), (6, .int s0)]) [1, 2, 3, 4, 5, 6, 0] rfl ?_
  exact w_L_law_1688 nf N xs hN hxs hd K28 PK28 hK28 x5 s0 ((f_X12_amountOf (xs (x5 + (1 : Int32)).toNatClampNeg) v).1) (f_X12_amountOf (xs (x5 + (1 : Int32)).toNatClampNeg) v).2 hp hQ
def f_L_law_1665 (N : Nat) (xs : Nat → Int32) (K28 : Int32 → gV → Int32 × gV)  (x5 : Int32) (v : gV) : Int32 × gV := f_L_law_1676 N xs K28 x5 ((f_L_amountOf (xs (x5 + (1 : Int32)).toNatClampNeg) v).1) (f_L_amountOf (xs (x5 + (1 : Int32)).toNatClampNeg) v).2
def p_L_law_1665 (N : Nat) (xs : Nat → Int32) (K28 : Int32 → gV → Int32 × gV)  (PK28 : Int32 → gV → Prop)  (x5 : Int32) (v : gV) : Prop := (vp_in (x5 + (1 : Int32)) N) ∧ ((p_L_amountOf (xs (x5 + (1 : Int32)).toNatClampNeg) v) ∧ (p_L_law_1676 N xs K28 PK28 x5 ((f_L_amountOf (xs (x5 + (1 : Int32)).toNatClampNeg) v).1) (f_L_amountOf (xs (x5 + (1 : Int32)).toNatClampNeg) v).2))
set_option maxHeartbeats 4000000 in
set_option maxRecDepth 100000 in
theorem w_L_law_1665 {E : gE} {d : Nat} {Q : gO → gS → Prop} (nf : Nat) (N : Nat) (xs : Nat → Int32) (hN : gva E 201 = N) (hxs : gxs E = xs) (hd : 16 ≤ d) (K28 : Int32 → gV → Int32 × gV)  (PK28 : Int32 → gV → Prop)  (hK28 : ∀ (x5 : Int32) (v : gV), PK28 x5 v → gqIV Q (K28 x5 v) → gG E m_L_law d Q (322 * nf) (2566 * nf) (rS v) 28 [(0, .ref (gva E 200)), (1, .ref (gX E + 0)), (2, .ref (gX E + 559)), (3, .ref (gX E + 570)), (4, .ref (gX E + 571)), (5, .int x5)] [])  (x5 : Int32) (v : gV) (hp : p_L_law_1665 N xs K28 PK28 x5 v) (hQ : gqIV Q (f_L_law_1665 N xs K28 x5 v)) : gG E m_L_law d Q (322 * nf + 1) (2566 * nf + 6) (rS v) 1665 [(0, .ref (gva E 200)), (1, .ref (gX E + 0)), (2, .ref (gX E + 559)), (3, .ref (gX E + 570)), (4, .ref (gX E + 571)), (5, .int x5)] [] := by
  refine g_aload_n 1 dL_law_1665 rfl ?_
  refine g_aload_n 0 dL_law_1666 rfl ?_
  refine g_iload 5 dL_law_1667 rfl ?_
  refine g_iconst dL_law_1669 (1 : Int32) (by decide) ?_
  refine g_iadd dL_law_1670 ?_
  obtain ⟨h230, hp⟩ := hp
  refine g_sld hN hxs h230 dL_law_1671 ?_
  refine g_aload_n 3 dL_law_1672 rfl ?_
  obtain ⟨h231, hp⟩ := hp
  refine g_callT (rest := []) s_L_276 rfl (c_L_amountOf (E := E) (d := d - 1)   (by omega) (xs (x5 + (1 : Int32)).toNatClampNeg) v h231) cqn rfl rfl (Nat.le_of_ble_eq_true rfl) (by omega) (by omega) (by omega) dL_law_1673 (adV ?_)
  refine g_room (k' := (322 * nf + 0)) (n' := (2566 * nf + 0)) (by omega) (by omega) ?_
  exact w_L_law_1676 nf N xs hN hxs hd K28 PK28 hK28 x5 ((f_L_amountOf (xs (x5 + (1 : Int32)).toNatClampNeg) v).1) (f_L_amountOf (xs (x5 + (1 : Int32)).toNatClampNeg) v).2 hp hQ
def f_L_law_1774 (N : Nat) (xs : Nat → Int32) (K28 : Int32 → gV → Int32 × gV)  (x5 : Int32) (v : gV) : Int32 × gV := f_L_law_3401 N xs K28 x5 v
def p_L_law_1774 (N : Nat) (xs : Nat → Int32) (K28 : Int32 → gV → Int32 × gV)  (PK28 : Int32 → gV → Prop)  (x5 : Int32) (v : gV) : Prop := p_L_law_3401 N xs K28 PK28 x5 v
set_option maxHeartbeats 4000000 in
set_option maxRecDepth 100000 in
theorem w_L_law_1774 {E : gE} {d : Nat} {Q : gO → gS → Prop} (nf : Nat) (N : Nat) (xs : Nat → Int32) (hN : gva E 201 = N) (hxs : gxs E = xs) (hd : 16 ≤ d) (K28 : Int32 → gV → Int32 × gV)  (PK28 : Int32 → gV → Prop)  (hK28 : ∀ (x5 : Int32) (v : gV), PK28 x5 v → gqIV Q (K28 x5 v) → gG E m_L_law d Q (322 * nf) (2566 * nf) (rS v) 28 [(0, .ref (gva E 200)), (1, .ref (gX E + 0)), (2, .ref (gX E + 559)), (3, .ref (gX E + 570)), (4, .ref (gX E + 571)), (5, .int x5)] [])  (x5 : Int32) (v : gV) (hp : p_L_law_1774 N xs K28 PK28 x5 v) (hQ : gqIV Q (f_L_law_1774 N xs K28 x5 v)) : gG E m_L_law d Q (322 * nf + 0) (2566 * nf + 0) (rS v) 1774 [(0, .ref (gva E 200)), (1, .ref (gX E + 0)), (2, .ref (gX E + 559)), (3, .ref (gX E + 570)), (4, .ref (gX E + 571)), (5, .int x5)] [] := by
  refine g_goto 3401 dL_law_1774 (by decide) ?_
  refine g_room (k' := (322 * nf + 0)) (n' := (2566 * nf + 0)) (by omega) (by omega) ?_
  exact w_L_law_3401 nf N xs hN hxs hd K28 PK28 hK28 x5 v hp hQ
def f_L_law_1744 (N : Nat) (xs : Nat → Int32) (K28 : Int32 → gV → Int32 × gV)  (x5 : Int32) (x6 : Int32) (s0 : Int32) (v : gV) : Int32 × gV := if (f_X12_thrown  v) = x6 then (if x6 = 0 then (if (lg_cmp (v.2.1 570 (0 : Int32).toNatClampNeg) s0.toInt64) = 0 then (f_L_law_1774 N xs K28 x5 v) else (((0 : Int32), v))) else (f_L_law_1774 N xs K28 x5 v)) else (((0 : Int32), v))
def p_L_law_1744 (N : Nat) (xs : Nat → Int32) (K28 : Int32 → gV → Int32 × gV)  (PK28 : Int32 → gV → Prop)  (x5 : Int32) (x6 : Int32) (s0 : Int32) (v : gV) : Prop := (p_X12_thrown  v) ∧ ((((f_X12_thrown  v) = x6) → (((x6 = 0) → ((((lg_cmp (v.2.1 570 (0 : Int32).toNatClampNeg) s0.toInt64) = 0) → (p_L_law_1774 N xs K28 PK28 x5 v)) ∧ (¬ ((lg_cmp (v.2.1 570 (0 : Int32).toNatClampNeg) s0.toInt64) = 0) → (True)))) ∧ (¬ (x6 = 0) → (p_L_law_1774 N xs K28 PK28 x5 v)))) ∧ (¬ ((f_X12_thrown  v) = x6) → (True)))
set_option maxHeartbeats 4000000 in
set_option maxRecDepth 100000 in
theorem w_L_law_1744 {E : gE} {d : Nat} {Q : gO → gS → Prop} (nf : Nat) (N : Nat) (xs : Nat → Int32) (hN : gva E 201 = N) (hxs : gxs E = xs) (hd : 16 ≤ d) (K28 : Int32 → gV → Int32 × gV)  (PK28 : Int32 → gV → Prop)  (hK28 : ∀ (x5 : Int32) (v : gV), PK28 x5 v → gqIV Q (K28 x5 v) → gG E m_L_law d Q (322 * nf) (2566 * nf) (rS v) 28 [(0, .ref (gva E 200)), (1, .ref (gX E + 0)), (2, .ref (gX E + 559)), (3, .ref (gX E + 570)), (4, .ref (gX E + 571)), (5, .int x5)] [])  (x5 : Int32) (x6 : Int32) (s0 : Int32) (v : gV) (hp : p_L_law_1744 N xs K28 PK28 x5 x6 s0 v) (hQ : gqIV Q (f_L_law_1744 N xs K28 x5 x6 s0 v)) : gG E m_L_law d Q (322 * nf + 0) (2566 * nf + 0) (rS v) 1744 [(0, .ref (gva E 200)), (1, .ref (gX E + 0)), (2, .ref (gX E + 559)), (3, .ref (gX E + 570)), (4, .ref (gX E + 571)), (5, .int x5), (6, .int x6)] [.int s0] := by
  refine g_istore [(7, .int s0), (0, .ref (gva E 200)), (1, .ref (gX E + 0)), (2, .ref (gX E + 559)), (3, .ref (gX E + 570)), (4, .ref (gX E + 571)), (5, .int x5), (6, .int x6)] dL_law_1744 (by decide) rfl ?_
  refine g_aload_n 3 dL_law_1746 rfl ?_
  obtain ⟨h243, hp⟩ := hp
  refine g_callV (rest := []) s_L_193_X12 rfl (c_X12_thrown (E := E) (d := d - 1)   (by omega)  v h243) (by decide : kd 559 = (0, 9)) (show 559 < 572 by decide) rfl rfl (Nat.le_of_ble_eq_true rfl) (by omega) (by omega) (by omega) dL_law_1747 (adV ?_) axN
  refine g_iload 7 dL_law_1750 rfl ?_
  refine g_icmp_eq 1757 dL_law_1752 (by decide) (fun h244 => ?_) (fun h244 => ?_)
  · have hQ := qp (P := gqIV Q) h244 hQ
    have hp := hp.1 h244
    refine g_iload 7 dL_law_1757 rfl ?_
    refine g_if_ne 1774 dL_law_1759 (by decide) (fun h245 => ?_) (fun h245 => ?_)
    · have hQ := qn (P := gqIV Q) h245 hQ
      have hp := hp.2 h245
      refine g_room (k' := (322 * nf + 0)) (n' := (2566 * nf + 0)) (by omega) (by omega) ?_
      refine g_lv (lv' := [(0, .ref (gva E 200)), (1, .ref (gX E + 0)), (2, .ref (gX E + 559)), (3, .ref (gX E + 570)), (4, .ref (gX E + 571)), (5, .int x5)]) [1, 2, 3, 4, 5, 6] rfl ?_
      exact w_L_law_1774 nf N xs hN hxs hd K28 PK28 hK28 x5 v hp hQ
    · have hQ := qp (P := gqIV Q) h245 hQ
      have hp := hp.1 h245
      refine g_aload_n 4 dL_law_1762 rfl ?_
      refine g_iconst dL_law_1763 (0 : Int32) (by decide) ?_
      refine g_lald (by decide : kd 570 = (3, 1)) (show 570 < 572 by decide) (show ¬ (_ ∨ _) by decide) dL_law_1764 ?_
      refine g_iload 0 dL_law_1765 rfl ?_
      refine g_i2l dL_law_1767 ?_
      refine g_lcmp dL_law_1768 ?_
      refine g_if_eq 1774 dL_law_1769 (by decide) (fun h246 => ?_) (fun h246 => ?_)
      · have hQ := qp (P := gqIV Q) h246 hQ
        have hp := hp.1 h246
        refine g_room (k' := (322 * nf + 0)) (n' := (2566 * nf + 0)) (by omega) (by omega) ?_
        refine g_lv (lv' := [(0, .ref (gva E 200)), (1, .ref (gX E + 0)), (2, .ref (gX E + 559)), (3, .ref (gX E + 570)), (4, .ref (gX E + 571)), (5, .int x5)]) [1, 2, 3, 4, 5, 6] rfl ?_
        exact w_L_law_1774 nf N xs hN hxs hd K28 PK28 hK28 x5 v hp hQ
      · have hQ := qn (P := gqIV Q) h246 hQ
        have hp := hp.2 h246
        refine g_iconst dL_law_1772 (0 : Int32) (by decide) ?_
        exact g_zret rfl rfl dL_law_1773 hQ
  · have hQ := qn (P := gqIV Q) h244 hQ
    have hp := hp.2 h244
    refine g_iconst dL_law_1755 (0 : Int32) (by decide) ?_
    exact g_zret rfl rfl dL_law_1756 hQ
def f_L_law_1732 (N : Nat) (xs : Nat → Int32) (K28 : Int32 → gV → Int32 × gV)  (x5 : Int32) (s0 : Int32) (v : gV) : Int32 × gV := f_L_law_1744 N xs K28 x5 s0 ((f_X12_paidOf (xs (x5 + (1 : Int32)).toNatClampNeg) v).1) (f_X12_paidOf (xs (x5 + (1 : Int32)).toNatClampNeg) v).2
def p_L_law_1732 (N : Nat) (xs : Nat → Int32) (K28 : Int32 → gV → Int32 × gV)  (PK28 : Int32 → gV → Prop)  (x5 : Int32) (s0 : Int32) (v : gV) : Prop := (vp_in (x5 + (1 : Int32)) N) ∧ ((p_X12_paidOf (xs (x5 + (1 : Int32)).toNatClampNeg) v) ∧ (p_L_law_1744 N xs K28 PK28 x5 s0 ((f_X12_paidOf (xs (x5 + (1 : Int32)).toNatClampNeg) v).1) (f_X12_paidOf (xs (x5 + (1 : Int32)).toNatClampNeg) v).2))
set_option maxHeartbeats 4000000 in
set_option maxRecDepth 100000 in
theorem w_L_law_1732 {E : gE} {d : Nat} {Q : gO → gS → Prop} (nf : Nat) (N : Nat) (xs : Nat → Int32) (hN : gva E 201 = N) (hxs : gxs E = xs) (hd : 16 ≤ d) (K28 : Int32 → gV → Int32 × gV)  (PK28 : Int32 → gV → Prop)  (hK28 : ∀ (x5 : Int32) (v : gV), PK28 x5 v → gqIV Q (K28 x5 v) → gG E m_L_law d Q (322 * nf) (2566 * nf) (rS v) 28 [(0, .ref (gva E 200)), (1, .ref (gX E + 0)), (2, .ref (gX E + 559)), (3, .ref (gX E + 570)), (4, .ref (gX E + 571)), (5, .int x5)] [])  (x5 : Int32) (s0 : Int32) (v : gV) (hp : p_L_law_1732 N xs K28 PK28 x5 s0 v) (hQ : gqIV Q (f_L_law_1732 N xs K28 x5 s0 v)) : gG E m_L_law d Q (322 * nf + 0) (2566 * nf + 0) (rS v) 1732 [(0, .ref (gva E 200)), (1, .ref (gX E + 0)), (2, .ref (gX E + 559)), (3, .ref (gX E + 570)), (4, .ref (gX E + 571)), (5, .int x5)] [.int s0] := by
  refine g_istore [(6, .int s0), (0, .ref (gva E 200)), (1, .ref (gX E + 0)), (2, .ref (gX E + 559)), (3, .ref (gX E + 570)), (4, .ref (gX E + 571)), (5, .int x5)] dL_law_1732 (by decide) rfl ?_
  refine g_aload_n 3 dL_law_1734 rfl ?_
  refine g_aload_n 1 dL_law_1735 rfl ?_
  refine g_iload 6 dL_law_1736 rfl ?_
  refine g_iconst dL_law_1738 (1 : Int32) (by decide) ?_
  refine g_iadd dL_law_1739 ?_
  obtain ⟨h241, hp⟩ := hp
  refine g_sld hN hxs h241 dL_law_1740 ?_
  obtain ⟨h242, hp⟩ := hp
  refine g_callV (rest := []) s_L_281_X12 rfl (c_X12_paidOf (E := E) (d := d - 1)   (by omega) (xs (x5 + (1 : Int32)).toNatClampNeg) v h242) (by decide : kd 559 = (0, 9)) (show 559 < 572 by decide) rfl rfl (Nat.le_of_ble_eq_true rfl) (by omega) (by omega) (by omega) dL_law_1741 (adV ?_) axN
  refine g_room (k' := (322 * nf + 0)) (n' := (2566 * nf + 0)) (by omega) (by omega) ?_
  refine g_lv (lv' := [(0, .ref (gva E 200)), (1, .ref (gX E + 0)), (2, .ref (gX E + 559)), (3, .ref (gX E + 570)), (4, .ref (gX E + 571)), (5, .int x5), (6, .int s0)]) [1, 2, 3, 4, 5, 6, 0] rfl ?_
  exact w_L_law_1744 nf N xs hN hxs hd K28 PK28 hK28 x5 s0 ((f_X12_paidOf (xs (x5 + (1 : Int32)).toNatClampNeg) v).1) (f_X12_paidOf (xs (x5 + (1 : Int32)).toNatClampNeg) v).2 hp hQ
def f_L_law_1721 (N : Nat) (xs : Nat → Int32) (K28 : Int32 → gV → Int32 × gV)  (x5 : Int32) (v : gV) : Int32 × gV := f_L_law_1732 N xs K28 x5 ((f_L_paidOf (xs (x5 + (1 : Int32)).toNatClampNeg) v).1) (f_L_paidOf (xs (x5 + (1 : Int32)).toNatClampNeg) v).2
def p_L_law_1721 (N : Nat) (xs : Nat → Int32) (K28 : Int32 → gV → Int32 × gV)  (PK28 : Int32 → gV → Prop)  (x5 : Int32) (v : gV) : Prop := (vp_in (x5 + (1 : Int32)) N) ∧ ((p_L_paidOf (xs (x5 + (1 : Int32)).toNatClampNeg) v) ∧ (p_L_law_1732 N xs K28 PK28 x5 ((f_L_paidOf (xs (x5 + (1 : Int32)).toNatClampNeg) v).1) (f_L_paidOf (xs (x5 + (1 : Int32)).toNatClampNeg) v).2))
set_option maxHeartbeats 4000000 in
set_option maxRecDepth 100000 in
theorem w_L_law_1721 {E : gE} {d : Nat} {Q : gO → gS → Prop} (nf : Nat) (N : Nat) (xs : Nat → Int32) (hN : gva E 201 = N) (hxs : gxs E = xs) (hd : 16 ≤ d) (K28 : Int32 → gV → Int32 × gV)  (PK28 : Int32 → gV → Prop)  (hK28 : ∀ (x5 : Int32) (v : gV), PK28 x5 v → gqIV Q (K28 x5 v) → gG E m_L_law d Q (322 * nf) (2566 * nf) (rS v) 28 [(0, .ref (gva E 200)), (1, .ref (gX E + 0)), (2, .ref (gX E + 559)), (3, .ref (gX E + 570)), (4, .ref (gX E + 571)), (5, .int x5)] [])  (x5 : Int32) (v : gV) (hp : p_L_law_1721 N xs K28 PK28 x5 v) (hQ : gqIV Q (f_L_law_1721 N xs K28 x5 v)) : gG E m_L_law d Q (322 * nf + 1) (2566 * nf + 6) (rS v) 1721 [(0, .ref (gva E 200)), (1, .ref (gX E + 0)), (2, .ref (gX E + 559)), (3, .ref (gX E + 570)), (4, .ref (gX E + 571)), (5, .int x5)] [] := by
  refine g_aload_n 1 dL_law_1721 rfl ?_
  refine g_aload_n 0 dL_law_1722 rfl ?_
  refine g_iload 5 dL_law_1723 rfl ?_
  refine g_iconst dL_law_1725 (1 : Int32) (by decide) ?_
  refine g_iadd dL_law_1726 ?_
  obtain ⟨h239, hp⟩ := hp
  refine g_sld hN hxs h239 dL_law_1727 ?_
  refine g_aload_n 3 dL_law_1728 rfl ?_
  obtain ⟨h240, hp⟩ := hp
  refine g_callT (rest := []) s_L_279 rfl (c_L_paidOf (E := E) (d := d - 1)   (by omega) (xs (x5 + (1 : Int32)).toNatClampNeg) v h240) cqn rfl rfl (Nat.le_of_ble_eq_true rfl) (by omega) (by omega) (by omega) dL_law_1729 (adV ?_)
  refine g_room (k' := (322 * nf + 0)) (n' := (2566 * nf + 0)) (by omega) (by omega) ?_
  exact w_L_law_1732 nf N xs hN hxs hd K28 PK28 hK28 x5 ((f_L_paidOf (xs (x5 + (1 : Int32)).toNatClampNeg) v).1) (f_L_paidOf (xs (x5 + (1 : Int32)).toNatClampNeg) v).2 hp hQ
def f_L_law_1842 (N : Nat) (xs : Nat → Int32) (K28 : Int32 → gV → Int32 × gV)  (x5 : Int32) (v : gV) : Int32 × gV := f_L_law_3401 N xs K28 x5 v
def p_L_law_1842 (N : Nat) (xs : Nat → Int32) (K28 : Int32 → gV → Int32 × gV)  (PK28 : Int32 → gV → Prop)  (x5 : Int32) (v : gV) : Prop := p_L_law_3401 N xs K28 PK28 x5 v
set_option maxHeartbeats 4000000 in
set_option maxRecDepth 100000 in
theorem w_L_law_1842 {E : gE} {d : Nat} {Q : gO → gS → Prop} (nf : Nat) (N : Nat) (xs : Nat → Int32) (hN : gva E 201 = N) (hxs : gxs E = xs) (hd : 16 ≤ d) (K28 : Int32 → gV → Int32 × gV)  (PK28 : Int32 → gV → Prop)  (hK28 : ∀ (x5 : Int32) (v : gV), PK28 x5 v → gqIV Q (K28 x5 v) → gG E m_L_law d Q (322 * nf) (2566 * nf) (rS v) 28 [(0, .ref (gva E 200)), (1, .ref (gX E + 0)), (2, .ref (gX E + 559)), (3, .ref (gX E + 570)), (4, .ref (gX E + 571)), (5, .int x5)] [])  (x5 : Int32) (v : gV) (hp : p_L_law_1842 N xs K28 PK28 x5 v) (hQ : gqIV Q (f_L_law_1842 N xs K28 x5 v)) : gG E m_L_law d Q (322 * nf + 0) (2566 * nf + 0) (rS v) 1842 [(0, .ref (gva E 200)), (1, .ref (gX E + 0)), (2, .ref (gX E + 559)), (3, .ref (gX E + 570)), (4, .ref (gX E + 571)), (5, .int x5)] [] := by
  refine g_goto 3401 dL_law_1842 (by decide) ?_
  refine g_room (k' := (322 * nf + 0)) (n' := (2566 * nf + 0)) (by omega) (by omega) ?_
  exact w_L_law_3401 nf N xs hN hxs hd K28 PK28 hK28 x5 v hp hQ
def f_L_law_1812 (N : Nat) (xs : Nat → Int32) (K28 : Int32 → gV → Int32 × gV)  (x5 : Int32) (x6 : Int32) (s0 : Int32) (v : gV) : Int32 × gV := if (f_X12_thrown  v) = x6 then (if x6 = 0 then (if (lg_cmp (v.2.1 570 (0 : Int32).toNatClampNeg) s0.toInt64) = 0 then (f_L_law_1842 N xs K28 x5 v) else (((0 : Int32), v))) else (f_L_law_1842 N xs K28 x5 v)) else (((0 : Int32), v))
def p_L_law_1812 (N : Nat) (xs : Nat → Int32) (K28 : Int32 → gV → Int32 × gV)  (PK28 : Int32 → gV → Prop)  (x5 : Int32) (x6 : Int32) (s0 : Int32) (v : gV) : Prop := (p_X12_thrown  v) ∧ ((((f_X12_thrown  v) = x6) → (((x6 = 0) → ((((lg_cmp (v.2.1 570 (0 : Int32).toNatClampNeg) s0.toInt64) = 0) → (p_L_law_1842 N xs K28 PK28 x5 v)) ∧ (¬ ((lg_cmp (v.2.1 570 (0 : Int32).toNatClampNeg) s0.toInt64) = 0) → (True)))) ∧ (¬ (x6 = 0) → (p_L_law_1842 N xs K28 PK28 x5 v)))) ∧ (¬ ((f_X12_thrown  v) = x6) → (True)))
set_option maxHeartbeats 4000000 in
set_option maxRecDepth 100000 in
theorem w_L_law_1812 {E : gE} {d : Nat} {Q : gO → gS → Prop} (nf : Nat) (N : Nat) (xs : Nat → Int32) (hN : gva E 201 = N) (hxs : gxs E = xs) (hd : 16 ≤ d) (K28 : Int32 → gV → Int32 × gV)  (PK28 : Int32 → gV → Prop)  (hK28 : ∀ (x5 : Int32) (v : gV), PK28 x5 v → gqIV Q (K28 x5 v) → gG E m_L_law d Q (322 * nf) (2566 * nf) (rS v) 28 [(0, .ref (gva E 200)), (1, .ref (gX E + 0)), (2, .ref (gX E + 559)), (3, .ref (gX E + 570)), (4, .ref (gX E + 571)), (5, .int x5)] [])  (x5 : Int32) (x6 : Int32) (s0 : Int32) (v : gV) (hp : p_L_law_1812 N xs K28 PK28 x5 x6 s0 v) (hQ : gqIV Q (f_L_law_1812 N xs K28 x5 x6 s0 v)) : gG E m_L_law d Q (322 * nf + 0) (2566 * nf + 0) (rS v) 1812 [(0, .ref (gva E 200)), (1, .ref (gX E + 0)), (2, .ref (gX E + 559)), (3, .ref (gX E + 570)), (4, .ref (gX E + 571)), (5, .int x5), (6, .int x6)] [.int s0] := by
  refine g_istore [(7, .int s0), (0, .ref (gva E 200)), (1, .ref (gX E + 0)), (2, .ref (gX E + 559)), (3, .ref (gX E + 570)), (4, .ref (gX E + 571)), (5, .int x5), (6, .int x6)] dL_law_1812 (by decide) rfl ?_
  refine g_aload_n 3 dL_law_1814 rfl ?_
  obtain ⟨h254, hp⟩ := hp
  refine g_callV (rest := []) s_L_193_X12 rfl (c_X12_thrown (E := E) (d := d - 1)   (by omega)  v h254) (by decide : kd 559 = (0, 9)) (show 559 < 572 by decide) rfl rfl (Nat.le_of_ble_eq_true rfl) (by omega) (by omega) (by omega) dL_law_1815 (adV ?_) axN
  refine g_iload 7 dL_law_1818 rfl ?_
  refine g_icmp_eq 1825 dL_law_1820 (by decide) (fun h255 => ?_) (fun h255 => ?_)
  · have hQ := qp (P := gqIV Q) h255 hQ
    have hp := hp.1 h255
    refine g_iload 7 dL_law_1825 rfl ?_
    refine g_if_ne 1842 dL_law_1827 (by decide) (fun h256 => ?_) (fun h256 => ?_)
    · have hQ := qn (P := gqIV Q) h256 hQ
      have hp := hp.2 h256
      refine g_room (k' := (322 * nf + 0)) (n' := (2566 * nf + 0)) (by omega) (by omega) ?_
      refine g_lv (lv' := [(0, .ref (gva E 200)), (1, .ref (gX E + 0)), (2, .ref (gX E + 559)), (3, .ref (gX E + 570)), (4, .ref (gX E + 571)), (5, .int x5)]) [1, 2, 3, 4, 5, 6] rfl ?_
      exact w_L_law_1842 nf N xs hN hxs hd K28 PK28 hK28 x5 v hp hQ
    · have hQ := qp (P := gqIV Q) h256 hQ
      have hp := hp.1 h256
      refine g_aload_n 4 dL_law_1830 rfl ?_
      refine g_iconst dL_law_1831 (0 : Int32) (by decide) ?_
      refine g_lald (by decide : kd 570 = (3, 1)) (show 570 < 572 by decide) (show ¬ (_ ∨ _) by decide) dL_law_1832 ?_
      refine g_iload 0 dL_law_1833 rfl ?_
      refine g_i2l dL_law_1835 ?_
      refine g_lcmp dL_law_1836 ?_
      refine g_if_eq 1842 dL_law_1837 (by decide) (fun h257 => ?_) (fun h257 => ?_)
      · have hQ := qp (P := gqIV Q) h257 hQ
        have hp := hp.1 h257
        refine g_room (k' := (322 * nf + 0)) (n' := (2566 * nf + 0)) (by omega) (by omega) ?_
        refine g_lv (lv' := [(0, .ref (gva E 200)), (1, .ref (gX E + 0)), (2, .ref (gX E + 559)), (3, .ref (gX E + 570)), (4, .ref (gX E + 571)), (5, .int x5)]) [1, 2, 3, 4, 5, 6] rfl ?_
        exact w_L_law_1842 nf N xs hN hxs hd K28 PK28 hK28 x5 v hp hQ
      · have hQ := qn (P := gqIV Q) h257 hQ
        have hp := hp.2 h257
        refine g_iconst dL_law_1840 (0 : Int32) (by decide) ?_
        exact g_zret rfl rfl dL_law_1841 hQ
  · have hQ := qn (P := gqIV Q) h255 hQ
    have hp := hp.2 h255
    refine g_iconst dL_law_1823 (0 : Int32) (by decide) ?_
    exact g_zret rfl rfl dL_law_1824 hQ
def f_L_law_1794 (N : Nat) (xs : Nat → Int32) (K28 : Int32 → gV → Int32 × gV)  (x5 : Int32) (s0 : Int32) (v : gV) : Int32 × gV := f_L_law_1812 N xs K28 x5 s0 ((f_X12_borneBy (xs (x5 + (1 : Int32)).toNatClampNeg) (xs (x5 + (2 : Int32)).toNatClampNeg) v).1) (f_X12_borneBy (xs (x5 + (1 : Int32)).toNatClampNeg) (xs (x5 + (2 : Int32)).toNatClampNeg) v).2
def p_L_law_1794 (N : Nat) (xs : Nat → Int32) (K28 : Int32 → gV → Int32 × gV)  (PK28 : Int32 → gV → Prop)  (x5 : Int32) (s0 : Int32) (v : gV) : Prop := (vp_in (x5 + (1 : Int32)) N) ∧ ((vp_in (x5 + (2 : Int32)) N) ∧ ((p_X12_borneBy (xs (x5 + (1 : Int32)).toNatClampNeg) (xs (x5 + (2 : Int32)).toNatClampNeg) v) ∧ (p_L_law_1812 N xs K28 PK28 x5 s0 ((f_X12_borneBy (xs (x5 + (1 : Int32)).toNatClampNeg) (xs (x5 + (2 : Int32)).toNatClampNeg) v).1) (f_X12_borneBy (xs (x5 + (1 : Int32)).toNatClampNeg) (xs (x5 + (2 : Int32)).toNatClampNeg) v).2)))
set_option maxHeartbeats 4000000 in
set_option maxRecDepth 100000 in
theorem w_L_law_1794 {E : gE} {d : Nat} {Q : gO → gS → Prop} (nf : Nat) (N : Nat) (xs : Nat → Int32) (hN : gva E 201 = N) (hxs : gxs E = xs) (hd : 16 ≤ d) (K28 : Int32 → gV → Int32 × gV)  (PK28 : Int32 → gV → Prop)  (hK28 : ∀ (x5 : Int32) (v : gV), PK28 x5 v → gqIV Q (K28 x5 v) → gG E m_L_law d Q (322 * nf) (2566 * nf) (rS v) 28 [(0, .ref (gva E 200)), (1, .ref (gX E + 0)), (2, .ref (gX E + 559)), (3, .ref (gX E + 570)), (4, .ref (gX E + 571)), (5, .int x5)] [])  (x5 : Int32) (s0 : Int32) (v : gV) (hp : p_L_law_1794 N xs K28 PK28 x5 s0 v) (hQ : gqIV Q (f_L_law_1794 N xs K28 x5 s0 v)) : gG E m_L_law d Q (322 * nf + 0) (2566 * nf + 0) (rS v) 1794 [(0, .ref (gva E 200)), (1, .ref (gX E + 0)), (2, .ref (gX E + 559)), (3, .ref (gX E + 570)), (4, .ref (gX E + 571)), (5, .int x5)] [.int s0] := by
  refine g_istore [(6, .int s0), (0, .ref (gva E 200)), (1, .ref (gX E + 0)), (2, .ref (gX E + 559)), (3, .ref (gX E + 570)), (4, .ref (gX E + 571)), (5, .int x5)] dL_law_1794 (by decide) rfl ?_
  refine g_aload_n 3 dL_law_1796 rfl ?_
  refine g_aload_n 1 dL_law_1797 rfl ?_
  refine g_iload 6 dL_law_1798 rfl ?_
  refine g_iconst dL_law_1800 (1 : Int32) (by decide) ?_
  refine g_iadd dL_law_1801 ?_
  obtain ⟨h251, hp⟩ := hp
  refine g_sld hN hxs h251 dL_law_1802 ?_
  refine g_aload_n 1 dL_law_1803 rfl ?_
  refine g_iload 6 dL_law_1804 rfl ?_
  refine g_iconst dL_law_1806 (2 : Int32) (by decide) ?_
  refine g_iadd dL_law_1807 ?_
  obtain ⟨h252, hp⟩ := hp
  refine g_sld hN hxs h252 dL_law_1808 ?_
  obtain ⟨h253, hp⟩ := hp
  refine g_callV (rest := []) s_L_284_X12 rfl (c_X12_borneBy (E := E) (d := d - 1)   (by omega) (xs (x5 + (1 : Int32)).toNatClampNeg) (xs (x5 + (2 : Int32)).toNatClampNeg) v h253) (by decide : kd 559 = (0, 9)) (show 559 < 572 by decide) rfl rfl (Nat.le_of_ble_eq_true rfl) (by omega) (by omega) (by omega) dL_law_1809 (adV ?_) axN
  refine g_room (k' := (322 * nf + 0)) (n' := (2566 * nf + 0)) (by omega) (by omega) ?_
  refine g_lv (lv' := [(0, .ref (gva E 200)), (1, .ref (gX E + 0)), (2, .ref (gX E + 559)), (3, .ref (gX E + 570)), (4, .ref (gX E + 571)), (5, .int x5), (6, .int s0)]) [1, 2, 3, 4, 5, 6, 0] rfl ?_
  exact w_L_law_1812 nf N xs hN hxs hd K28 PK28 hK28 x5 s0 ((f_X12_borneBy (xs (x5 + (1 : Int32)).toNatClampNeg) (xs (x5 + (2 : Int32)).toNatClampNeg) v).1) (f_X12_borneBy (xs (x5 + (1 : Int32)).toNatClampNeg) (xs (x5 + (2 : Int32)).toNatClampNeg) v).2 hp hQ
def f_L_law_1777 (N : Nat) (xs : Nat → Int32) (K28 : Int32 → gV → Int32 × gV)  (x5 : Int32) (v : gV) : Int32 × gV := f_L_law_1794 N xs K28 x5 ((f_L_borneBy (xs (x5 + (1 : Int32)).toNatClampNeg) (xs (x5 + (2 : Int32)).toNatClampNeg) v).1) (f_L_borneBy (xs (x5 + (1 : Int32)).toNatClampNeg) (xs (x5 + (2 : Int32)).toNatClampNeg) v).2
def p_L_law_1777 (N : Nat) (xs : Nat → Int32) (K28 : Int32 → gV → Int32 × gV)  (PK28 : Int32 → gV → Prop)  (x5 : Int32) (v : gV) : Prop := (vp_in (x5 + (1 : Int32)) N) ∧ ((vp_in (x5 + (2 : Int32)) N) ∧ ((p_L_borneBy (xs (x5 + (1 : Int32)).toNatClampNeg) (xs (x5 + (2 : Int32)).toNatClampNeg) v) ∧ (p_L_law_1794 N xs K28 PK28 x5 ((f_L_borneBy (xs (x5 + (1 : Int32)).toNatClampNeg) (xs (x5 + (2 : Int32)).toNatClampNeg) v).1) (f_L_borneBy (xs (x5 + (1 : Int32)).toNatClampNeg) (xs (x5 + (2 : Int32)).toNatClampNeg) v).2)))
set_option maxHeartbeats 4000000 in
set_option maxRecDepth 100000 in
theorem w_L_law_1777 {E : gE} {d : Nat} {Q : gO → gS → Prop} (nf : Nat) (N : Nat) (xs : Nat → Int32) (hN : gva E 201 = N) (hxs : gxs E = xs) (hd : 16 ≤ d) (K28 : Int32 → gV → Int32 × gV)  (PK28 : Int32 → gV → Prop)  (hK28 : ∀ (x5 : Int32) (v : gV), PK28 x5 v → gqIV Q (K28 x5 v) → gG E m_L_law d Q (322 * nf) (2566 * nf) (rS v) 28 [(0, .ref (gva E 200)), (1, .ref (gX E + 0)), (2, .ref (gX E + 559)), (3, .ref (gX E + 570)), (4, .ref (gX E + 571)), (5, .int x5)] [])  (x5 : Int32) (v : gV) (hp : p_L_law_1777 N xs K28 PK28 x5 v) (hQ : gqIV Q (f_L_law_1777 N xs K28 x5 v)) : gG E m_L_law d Q (322 * nf + 2) (2566 * nf + 12) (rS v) 1777 [(0, .ref (gva E 200)), (1, .ref (gX E + 0)), (2, .ref (gX E + 559)), (3, .ref (gX E + 570)), (4, .ref (gX E + 571)), (5, .int x5)] [] := by
  refine g_aload_n 1 dL_law_1777 rfl ?_
  refine g_aload_n 0 dL_law_1778 rfl ?_
  refine g_iload 5 dL_law_1779 rfl ?_
  refine g_iconst dL_law_1781 (1 : Int32) (by decide) ?_
  refine g_iadd dL_law_1782 ?_
  obtain ⟨h248, hp⟩ := hp
  refine g_sld hN hxs h248 dL_law_1783 ?_
  refine g_aload_n 0 dL_law_1784 rfl ?_
  refine g_iload 5 dL_law_1785 rfl ?_
  refine g_iconst dL_law_1787 (2 : Int32) (by decide) ?_
  refine g_iadd dL_law_1788 ?_
  obtain ⟨h249, hp⟩ := hp
  refine g_sld hN hxs h249 dL_law_1789 ?_
  refine g_aload_n 3 dL_law_1790 rfl ?_
  obtain ⟨h250, hp⟩ := hp
  refine g_callT (rest := []) s_L_282 rfl (c_L_borneBy (E := E) (d := d - 1)   (by omega) (xs (x5 + (1 : Int32)).toNatClampNeg) (xs (x5 + (2 : Int32)).toNatClampNeg) v h250) cqn rfl rfl (Nat.le_of_ble_eq_true rfl) (by omega) (by omega) (by omega) dL_law_1791 (adV ?_)
  refine g_room (k' := (322 * nf + 0)) (n' := (2566 * nf + 0)) (by omega) (by omega) ?_
  exact w_L_law_1794 nf N xs hN hxs hd K28 PK28 hK28 x5 ((f_L_borneBy (xs (x5 + (1 : Int32)).toNatClampNeg) (xs (x5 + (2 : Int32)).toNatClampNeg) v).1) (f_L_borneBy (xs (x5 + (1 : Int32)).toNatClampNeg) (xs (x5 + (2 : Int32)).toNatClampNeg) v).2 hp hQ
def f_L_law_1898 (N : Nat) (xs : Nat → Int32) (K28 : Int32 → gV → Int32 × gV)  (x5 : Int32) (v : gV) : Int32 × gV := f_L_law_3401 N xs K28 x5 v
def p_L_law_1898 (N : Nat) (xs : Nat → Int32) (K28 : Int32 → gV → Int32 × gV)  (PK28 : Int32 → gV → Prop)  (x5 : Int32) (v : gV) : Prop := p_L_law_3401 N xs K28 PK28 x5 v
set_option maxHeartbeats 4000000 in
set_option maxRecDepth 100000 in
theorem w_L_law_1898 {E : gE} {d : Nat} {Q : gO → gS → Prop} (nf : Nat) (N : Nat) (xs : Nat → Int32) (hN : gva E 201 = N) (hxs : gxs E = xs) (hd : 16 ≤ d) (K28 : Int32 → gV → Int32 × gV)  (PK28 : Int32 → gV → Prop)  (hK28 : ∀ (x5 : Int32) (v : gV), PK28 x5 v → gqIV Q (K28 x5 v) → gG E m_L_law d Q (322 * nf) (2566 * nf) (rS v) 28 [(0, .ref (gva E 200)), (1, .ref (gX E + 0)), (2, .ref (gX E + 559)), (3, .ref (gX E + 570)), (4, .ref (gX E + 571)), (5, .int x5)] [])  (x5 : Int32) (v : gV) (hp : p_L_law_1898 N xs K28 PK28 x5 v) (hQ : gqIV Q (f_L_law_1898 N xs K28 x5 v)) : gG E m_L_law d Q (322 * nf + 0) (2566 * nf + 0) (rS v) 1898 [(0, .ref (gva E 200)), (1, .ref (gX E + 0)), (2, .ref (gX E + 559)), (3, .ref (gX E + 570)), (4, .ref (gX E + 571)), (5, .int x5)] [] := by
  refine g_goto 3401 dL_law_1898 (by decide) ?_
  refine g_room (k' := (322 * nf + 0)) (n' := (2566 * nf + 0)) (by omega) (by omega) ?_
  exact w_L_law_3401 nf N xs hN hxs hd K28 PK28 hK28 x5 v hp hQ
def f_L_law_1868 (N : Nat) (xs : Nat → Int32) (K28 : Int32 → gV → Int32 × gV)  (x5 : Int32) (x6 : Int32) (s0 : Int32) (v : gV) : Int32 × gV := if (f_X12_thrown  v) = x6 then (if x6 = 0 then (if (lg_cmp (v.2.1 570 (0 : Int32).toNatClampNeg) s0.toInt64) = 0 then (f_L_law_1898 N xs K28 x5 v) else (((0 : Int32), v))) else (f_L_law_1898 N xs K28 x5 v)) else (((0 : Int32), v))
def p_L_law_1868 (N : Nat) (xs : Nat → Int32) (K28 : Int32 → gV → Int32 × gV)  (PK28 : Int32 → gV → Prop)  (x5 : Int32) (x6 : Int32) (s0 : Int32) (v : gV) : Prop := (p_X12_thrown  v) ∧ ((((f_X12_thrown  v) = x6) → (((x6 = 0) → ((((lg_cmp (v.2.1 570 (0 : Int32).toNatClampNeg) s0.toInt64) = 0) → (p_L_law_1898 N xs K28 PK28 x5 v)) ∧ (¬ ((lg_cmp (v.2.1 570 (0 : Int32).toNatClampNeg) s0.toInt64) = 0) → (True)))) ∧ (¬ (x6 = 0) → (p_L_law_1898 N xs K28 PK28 x5 v)))) ∧ (¬ ((f_X12_thrown  v) = x6) → (True)))
set_option maxHeartbeats 4000000 in
set_option maxRecDepth 100000 in
theorem w_L_law_1868 {E : gE} {d : Nat} {Q : gO → gS → Prop} (nf : Nat) (N : Nat) (xs : Nat → Int32) (hN : gva E 201 = N) (hxs : gxs E = xs) (hd : 16 ≤ d) (K28 : Int32 → gV → Int32 × gV)  (PK28 : Int32 → gV → Prop)  (hK28 : ∀ (x5 : Int32) (v : gV), PK28 x5 v → gqIV Q (K28 x5 v) → gG E m_L_law d Q (322 * nf) (2566 * nf) (rS v) 28 [(0, .ref (gva E 200)), (1, .ref (gX E + 0)), (2, .ref (gX E + 559)), (3, .ref (gX E + 570)), (4, .ref (gX E + 571)), (5, .int x5)] [])  (x5 : Int32) (x6 : Int32) (s0 : Int32) (v : gV) (hp : p_L_law_1868 N xs K28 PK28 x5 x6 s0 v) (hQ : gqIV Q (f_L_law_1868 N xs K28 x5 x6 s0 v)) : gG E m_L_law d Q (322 * nf + 0) (2566 * nf + 0) (rS v) 1868 [(0, .ref (gva E 200)), (1, .ref (gX E + 0)), (2, .ref (gX E + 559)), (3, .ref (gX E + 570)), (4, .ref (gX E + 571)), (5, .int x5), (6, .int x6)] [.int s0] := by
  refine g_istore [(7, .int s0), (0, .ref (gva E 200)), (1, .ref (gX E + 0)), (2, .ref (gX E + 559)), (3, .ref (gX E + 570)), (4, .ref (gX E + 571)), (5, .int x5), (6, .int x6)] dL_law_1868 (by decide) rfl ?_
  refine g_aload_n 3 dL_law_1870 rfl ?_
  obtain ⟨h263, hp⟩ := hp
  refine g_callV (rest := []) s_L_193_X12 rfl (c_X12_thrown (E := E) (d := d - 1)   (by omega)  v h263) (by decide : kd 559 = (0, 9)) (show 559 < 572 by decide) rfl rfl (Nat.le_of_ble_eq_true rfl) (by omega) (by omega) (by omega) dL_law_1871 (adV ?_) axN
  refine g_iload 7 dL_law_1874 rfl ?_
  refine g_icmp_eq 1881 dL_law_1876 (by decide) (fun h264 => ?_) (fun h264 => ?_)
  · have hQ := qp (P := gqIV Q) h264 hQ
    have hp := hp.1 h264
    refine g_iload 7 dL_law_1881 rfl ?_
    refine g_if_ne 1898 dL_law_1883 (by decide) (fun h265 => ?_) (fun h265 => ?_)
    · have hQ := qn (P := gqIV Q) h265 hQ
      have hp := hp.2 h265
      refine g_room (k' := (322 * nf + 0)) (n' := (2566 * nf + 0)) (by omega) (by omega) ?_
      refine g_lv (lv' := [(0, .ref (gva E 200)), (1, .ref (gX E + 0)), (2, .ref (gX E + 559)), (3, .ref (gX E + 570)), (4, .ref (gX E + 571)), (5, .int x5)]) [1, 2, 3, 4, 5, 6] rfl ?_
      exact w_L_law_1898 nf N xs hN hxs hd K28 PK28 hK28 x5 v hp hQ
    · have hQ := qp (P := gqIV Q) h265 hQ
      have hp := hp.1 h265
      refine g_aload_n 4 dL_law_1886 rfl ?_
      refine g_iconst dL_law_1887 (0 : Int32) (by decide) ?_
      refine g_lald (by decide : kd 570 = (3, 1)) (show 570 < 572 by decide) (show ¬ (_ ∨ _) by decide) dL_law_1888 ?_
      refine g_iload 0 dL_law_1889 rfl ?_
      refine g_i2l dL_law_1891 ?_
      refine g_lcmp dL_law_1892 ?_
      refine g_if_eq 1898 dL_law_1893 (by decide) (fun h266 => ?_) (fun h266 => ?_)
      · have hQ := qp (P := gqIV Q) h266 hQ
        have hp := hp.1 h266
        refine g_room (k' := (322 * nf + 0)) (n' := (2566 * nf + 0)) (by omega) (by omega) ?_
        refine g_lv (lv' := [(0, .ref (gva E 200)), (1, .ref (gX E + 0)), (2, .ref (gX E + 559)), (3, .ref (gX E + 570)), (4, .ref (gX E + 571)), (5, .int x5)]) [1, 2, 3, 4, 5, 6] rfl ?_
        exact w_L_law_1898 nf N xs hN hxs hd K28 PK28 hK28 x5 v hp hQ
      · have hQ := qn (P := gqIV Q) h266 hQ
        have hp := hp.2 h266
        refine g_iconst dL_law_1896 (0 : Int32) (by decide) ?_
        exact g_zret rfl rfl dL_law_1897 hQ
  · have hQ := qn (P := gqIV Q) h264 hQ
    have hp := hp.2 h264
    refine g_iconst dL_law_1879 (0 : Int32) (by decide) ?_
    exact g_zret rfl rfl dL_law_1880 hQ
def f_L_law_1856 (N : Nat) (xs : Nat → Int32) (K28 : Int32 → gV → Int32 × gV)  (x5 : Int32) (s0 : Int32) (v : gV) : Int32 × gV := f_L_law_1868 N xs K28 x5 s0 ((f_X12_ownPart (xs (x5 + (1 : Int32)).toNatClampNeg) v).1) (f_X12_ownPart (xs (x5 + (1 : Int32)).toNatClampNeg) v).2
def p_L_law_1856 (N : Nat) (xs : Nat → Int32) (K28 : Int32 → gV → Int32 × gV)  (PK28 : Int32 → gV → Prop)  (x5 : Int32) (s0 : Int32) (v : gV) : Prop := (vp_in (x5 + (1 : Int32)) N) ∧ ((p_X12_ownPart (xs (x5 + (1 : Int32)).toNatClampNeg) v) ∧ (p_L_law_1868 N xs K28 PK28 x5 s0 ((f_X12_ownPart (xs (x5 + (1 : Int32)).toNatClampNeg) v).1) (f_X12_ownPart (xs (x5 + (1 : Int32)).toNatClampNeg) v).2))
set_option maxHeartbeats 4000000 in
set_option maxRecDepth 100000 in
theorem w_L_law_1856 {E : gE} {d : Nat} {Q : gO → gS → Prop} (nf : Nat) (N : Nat) (xs : Nat → Int32) (hN : gva E 201 = N) (hxs : gxs E = xs) (hd : 16 ≤ d) (K28 : Int32 → gV → Int32 × gV)  (PK28 : Int32 → gV → Prop)  (hK28 : ∀ (x5 : Int32) (v : gV), PK28 x5 v → gqIV Q (K28 x5 v) → gG E m_L_law d Q (322 * nf) (2566 * nf) (rS v) 28 [(0, .ref (gva E 200)), (1, .ref (gX E + 0)), (2, .ref (gX E + 559)), (3, .ref (gX E + 570)), (4, .ref (gX E + 571)), (5, .int x5)] [])  (x5 : Int32) (s0 : Int32) (v : gV) (hp : p_L_law_1856 N xs K28 PK28 x5 s0 v) (hQ : gqIV Q (f_L_law_1856 N xs K28 x5 s0 v)) : gG E m_L_law d Q (322 * nf + 0) (2566 * nf + 0) (rS v) 1856 [(0, .ref (gva E 200)), (1, .ref (gX E + 0)), (2, .ref (gX E + 559)), (3, .ref (gX E + 570)), (4, .ref (gX E + 571)), (5, .int x5)] [.int s0] := by
  refine g_istore [(6, .int s0), (0, .ref (gva E 200)), (1, .ref (gX E + 0)), (2, .ref (gX E + 559)), (3, .ref (gX E + 570)), (4, .ref (gX E + 571)), (5, .int x5)] dL_law_1856 (by decide) rfl ?_
  refine g_aload_n 3 dL_law_1858 rfl ?_
  refine g_aload_n 1 dL_law_1859 rfl ?_
  refine g_iload 6 dL_law_1860 rfl ?_
  refine g_iconst dL_law_1862 (1 : Int32) (by decide) ?_
  refine g_iadd dL_law_1863 ?_
  obtain ⟨h261, hp⟩ := hp
  refine g_sld hN hxs h261 dL_law_1864 ?_
  obtain ⟨h262, hp⟩ := hp
  refine g_callV (rest := []) s_L_287_X12 rfl (c_X12_ownPart (E := E) (d := d - 1)   (by omega) (xs (x5 + (1 : Int32)).toNatClampNeg) v h262) (by decide : kd 559 = (0, 9)) (show 559 < 572 by decide) rfl rfl (Nat.le_of_ble_eq_true rfl) (by omega) (by omega) (by omega) dL_law_1865 (adV ?_) axN
  refine g_room (k' := (322 * nf + 0)) (n' := (2566 * nf + 0)) (by omega) (by omega) ?_
  refine g_lv (lv' := [(0, .ref (gva E 200)), (1, .ref (gX E + 0)), (2, .ref (gX E + 559)), (3, .ref (gX E + 570)), (4, .ref (gX E + 571)), (5, .int x5), (6, .int s0)]) [1, 2, 3, 4, 5, 6, 0] rfl ?_
  exact w_L_law_1868 nf N xs hN hxs hd K28 PK28 hK28 x5 s0 ((f_X12_ownPart (xs (x5 + (1 : Int32)).toNatClampNeg) v).1) (f_X12_ownPart (xs (x5 + (1 : Int32)).toNatClampNeg) v).2 hp hQ
def f_L_law_1845 (N : Nat) (xs : Nat → Int32) (K28 : Int32 → gV → Int32 × gV)  (x5 : Int32) (v : gV) : Int32 × gV := f_L_law_1856 N xs K28 x5 ((f_L_ownPart (xs (x5 + (1 : Int32)).toNatClampNeg) v).1) (f_L_ownPart (xs (x5 + (1 : Int32)).toNatClampNeg) v).2
def p_L_law_1845 (N : Nat) (xs : Nat → Int32) (K28 : Int32 → gV → Int32 × gV)  (PK28 : Int32 → gV → Prop)  (x5 : Int32) (v : gV) : Prop := (vp_in (x5 + (1 : Int32)) N) ∧ ((p_L_ownPart (xs (x5 + (1 : Int32)).toNatClampNeg) v) ∧ (p_L_law_1856 N xs K28 PK28 x5 ((f_L_ownPart (xs (x5 + (1 : Int32)).toNatClampNeg) v).1) (f_L_ownPart (xs (x5 + (1 : Int32)).toNatClampNeg) v).2))
set_option maxHeartbeats 4000000 in
set_option maxRecDepth 100000 in
theorem w_L_law_1845 {E : gE} {d : Nat} {Q : gO → gS → Prop} (nf : Nat) (N : Nat) (xs : Nat → Int32) (hN : gva E 201 = N) (hxs : gxs E = xs) (hd : 16 ≤ d) (K28 : Int32 → gV → Int32 × gV)  (PK28 : Int32 → gV → Prop)  (hK28 : ∀ (x5 : Int32) (v : gV), PK28 x5 v → gqIV Q (K28 x5 v) → gG E m_L_law d Q (322 * nf) (2566 * nf) (rS v) 28 [(0, .ref (gva E 200)), (1, .ref (gX E + 0)), (2, .ref (gX E + 559)), (3, .ref (gX E + 570)), (4, .ref (gX E + 571)), (5, .int x5)] [])  (x5 : Int32) (v : gV) (hp : p_L_law_1845 N xs K28 PK28 x5 v) (hQ : gqIV Q (f_L_law_1845 N xs K28 x5 v)) : gG E m_L_law d Q (322 * nf + 1) (2566 * nf + 6) (rS v) 1845 [(0, .ref (gva E 200)), (1, .ref (gX E + 0)), (2, .ref (gX E + 559)), (3, .ref (gX E + 570)), (4, .ref (gX E + 571)), (5, .int x5)] [] := by
  refine g_aload_n 1 dL_law_1845 rfl ?_
  refine g_aload_n 0 dL_law_1846 rfl ?_
  refine g_iload 5 dL_law_1847 rfl ?_
  refine g_iconst dL_law_1849 (1 : Int32) (by decide) ?_
  refine g_iadd dL_law_1850 ?_
  obtain ⟨h259, hp⟩ := hp
  refine g_sld hN hxs h259 dL_law_1851 ?_
  refine g_aload_n 3 dL_law_1852 rfl ?_
  obtain ⟨h260, hp⟩ := hp
  refine g_callT (rest := []) s_L_285 rfl (c_L_ownPart (E := E) (d := d - 1)   (by omega) (xs (x5 + (1 : Int32)).toNatClampNeg) v h260) cqn rfl rfl (Nat.le_of_ble_eq_true rfl) (by omega) (by omega) (by omega) dL_law_1853 (adV ?_)
  refine g_room (k' := (322 * nf + 0)) (n' := (2566 * nf + 0)) (by omega) (by omega) ?_
  exact w_L_law_1856 nf N xs hN hxs hd K28 PK28 hK28 x5 ((f_L_ownPart (xs (x5 + (1 : Int32)).toNatClampNeg) v).1) (f_L_ownPart (xs (x5 + (1 : Int32)).toNatClampNeg) v).2 hp hQ
def f_L_law_1954 (N : Nat) (xs : Nat → Int32) (K28 : Int32 → gV → Int32 × gV)  (x5 : Int32) (v : gV) : Int32 × gV := f_L_law_3401 N xs K28 x5 v
def p_L_law_1954 (N : Nat) (xs : Nat → Int32) (K28 : Int32 → gV → Int32 × gV)  (PK28 : Int32 → gV → Prop)  (x5 : Int32) (v : gV) : Prop := p_L_law_3401 N xs K28 PK28 x5 v
set_option maxHeartbeats 4000000 in
set_option maxRecDepth 100000 in
theorem w_L_law_1954 {E : gE} {d : Nat} {Q : gO → gS → Prop} (nf : Nat) (N : Nat) (xs : Nat → Int32) (hN : gva E 201 = N) (hxs : gxs E = xs) (hd : 16 ≤ d) (K28 : Int32 → gV → Int32 × gV)  (PK28 : Int32 → gV → Prop)  (hK28 : ∀ (x5 : Int32) (v : gV), PK28 x5 v → gqIV Q (K28 x5 v) → gG E m_L_law d Q (322 * nf) (2566 * nf) (rS v) 28 [(0, .ref (gva E 200)), (1, .ref (gX E + 0)), (2, .ref (gX E + 559)), (3, .ref (gX E + 570)), (4, .ref (gX E + 571)), (5, .int x5)] [])  (x5 : Int32) (v : gV) (hp : p_L_law_1954 N xs K28 PK28 x5 v) (hQ : gqIV Q (f_L_law_1954 N xs K28 x5 v)) : gG E m_L_law d Q (322 * nf + 0) (2566 * nf + 0) (rS v) 1954 [(0, .ref (gva E 200)), (1, .ref (gX E + 0)), (2, .ref (gX E + 559)), (3, .ref (gX E + 570)), (4, .ref (gX E + 571)), (5, .int x5)] [] := by
  refine g_goto 3401 dL_law_1954 (by decide) ?_
  refine g_room (k' := (322 * nf + 0)) (n' := (2566 * nf + 0)) (by omega) (by omega) ?_
  exact w_L_law_3401 nf N xs hN hxs hd K28 PK28 hK28 x5 v hp hQ
def f_L_law_1924 (N : Nat) (xs : Nat → Int32) (K28 : Int32 → gV → Int32 × gV)  (x5 : Int32) (x6 : Int32) (s0 : Int32) (v : gV) : Int32 × gV := if (f_X12_thrown  v) = x6 then (if x6 = 0 then (if (lg_cmp (v.2.1 570 (0 : Int32).toNatClampNeg) s0.toInt64) = 0 then (f_L_law_1954 N xs K28 x5 v) else (((0 : Int32), v))) else (f_L_law_1954 N xs K28 x5 v)) else (((0 : Int32), v))
def p_L_law_1924 (N : Nat) (xs : Nat → Int32) (K28 : Int32 → gV → Int32 × gV)  (PK28 : Int32 → gV → Prop)  (x5 : Int32) (x6 : Int32) (s0 : Int32) (v : gV) : Prop := (p_X12_thrown  v) ∧ ((((f_X12_thrown  v) = x6) → (((x6 = 0) → ((((lg_cmp (v.2.1 570 (0 : Int32).toNatClampNeg) s0.toInt64) = 0) → (p_L_law_1954 N xs K28 PK28 x5 v)) ∧ (¬ ((lg_cmp (v.2.1 570 (0 : Int32).toNatClampNeg) s0.toInt64) = 0) → (True)))) ∧ (¬ (x6 = 0) → (p_L_law_1954 N xs K28 PK28 x5 v)))) ∧ (¬ ((f_X12_thrown  v) = x6) → (True)))
set_option maxHeartbeats 4000000 in
set_option maxRecDepth 100000 in
theorem w_L_law_1924 {E : gE} {d : Nat} {Q : gO → gS → Prop} (nf : Nat) (N : Nat) (xs : Nat → Int32) (hN : gva E 201 = N) (hxs : gxs E = xs) (hd : 16 ≤ d) (K28 : Int32 → gV → Int32 × gV)  (PK28 : Int32 → gV → Prop)  (hK28 : ∀ (x5 : Int32) (v : gV), PK28 x5 v → gqIV Q (K28 x5 v) → gG E m_L_law d Q (322 * nf) (2566 * nf) (rS v) 28 [(0, .ref (gva E 200)), (1, .ref (gX E + 0)), (2, .ref (gX E + 559)), (3, .ref (gX E + 570)), (4, .ref (gX E + 571)), (5, .int x5)] [])  (x5 : Int32) (x6 : Int32) (s0 : Int32) (v : gV) (hp : p_L_law_1924 N xs K28 PK28 x5 x6 s0 v) (hQ : gqIV Q (f_L_law_1924 N xs K28 x5 x6 s0 v)) : gG E m_L_law d Q (322 * nf + 0) (2566 * nf + 0) (rS v) 1924 [(0, .ref (gva E 200)), (1, .ref (gX E + 0)), (2, .ref (gX E + 559)), (3, .ref (gX E + 570)), (4, .ref (gX E + 571)), (5, .int x5), (6, .int x6)] [.int s0] := by
  refine g_istore [(7, .int s0), (0, .ref (gva E 200)), (1, .ref (gX E + 0)), (2, .ref (gX E + 559)), (3, .ref (gX E + 570)), (4, .ref (gX E + 571)), (5, .int x5), (6, .int x6)] dL_law_1924 (by decide) rfl ?_
  refine g_aload_n 3 dL_law_1926 rfl ?_
  obtain ⟨h272, hp⟩ := hp
  refine g_callV (rest := []) s_L_193_X12 rfl (c_X12_thrown (E := E) (d := d - 1)   (by omega)  v h272) (by decide : kd 559 = (0, 9)) (show 559 < 572 by decide) rfl rfl (Nat.le_of_ble_eq_true rfl) (by omega) (by omega) (by omega) dL_law_1927 (adV ?_) axN
  refine g_iload 7 dL_law_1930 rfl ?_
  refine g_icmp_eq 1937 dL_law_1932 (by decide) (fun h273 => ?_) (fun h273 => ?_)
  · have hQ := qp (P := gqIV Q) h273 hQ
    have hp := hp.1 h273
    refine g_iload 7 dL_law_1937 rfl ?_
    refine g_if_ne 1954 dL_law_1939 (by decide) (fun h274 => ?_) (fun h274 => ?_)
    · have hQ := qn (P := gqIV Q) h274 hQ
      have hp := hp.2 h274
      refine g_room (k' := (322 * nf + 0)) (n' := (2566 * nf + 0)) (by omega) (by omega) ?_
      refine g_lv (lv' := [(0, .ref (gva E 200)), (1, .ref (gX E + 0)), (2, .ref (gX E + 559)), (3, .ref (gX E + 570)), (4, .ref (gX E + 571)), (5, .int x5)]) [1, 2, 3, 4, 5, 6] rfl ?_
      exact w_L_law_1954 nf N xs hN hxs hd K28 PK28 hK28 x5 v hp hQ
    · have hQ := qp (P := gqIV Q) h274 hQ
      have hp := hp.1 h274
      refine g_aload_n 4 dL_law_1942 rfl ?_
      refine g_iconst dL_law_1943 (0 : Int32) (by decide) ?_
      refine g_lald (by decide : kd 570 = (3, 1)) (show 570 < 572 by decide) (show ¬ (_ ∨ _) by decide) dL_law_1944 ?_
      refine g_iload 0 dL_law_1945 rfl ?_
      refine g_i2l dL_law_1947 ?_
      refine g_lcmp dL_law_1948 ?_
      refine g_if_eq 1954 dL_law_1949 (by decide) (fun h275 => ?_) (fun h275 => ?_)
      · have hQ := qp (P := gqIV Q) h275 hQ
        have hp := hp.1 h275
        refine g_room (k' := (322 * nf + 0)) (n' := (2566 * nf + 0)) (by omega) (by omega) ?_
        refine g_lv (lv' := [(0, .ref (gva E 200)), (1, .ref (gX E + 0)), (2, .ref (gX E + 559)), (3, .ref (gX E + 570)), (4, .ref (gX E + 571)), (5, .int x5)]) [1, 2, 3, 4, 5, 6] rfl ?_
        exact w_L_law_1954 nf N xs hN hxs hd K28 PK28 hK28 x5 v hp hQ
      · have hQ := qn (P := gqIV Q) h275 hQ
        have hp := hp.2 h275
        refine g_iconst dL_law_1952 (0 : Int32) (by decide) ?_
        exact g_zret rfl rfl dL_law_1953 hQ
  · have hQ := qn (P := gqIV Q) h273 hQ
    have hp := hp.2 h273
    refine g_iconst dL_law_1935 (0 : Int32) (by decide) ?_
    exact g_zret rfl rfl dL_law_1936 hQ
def f_L_law_1912 (N : Nat) (xs : Nat → Int32) (K28 : Int32 → gV → Int32 × gV)  (x5 : Int32) (s0 : Int32) (v : gV) : Int32 × gV := f_L_law_1924 N xs K28 x5 s0 ((f_X12_recovered (xs (x5 + (1 : Int32)).toNatClampNeg) v).1) (f_X12_recovered (xs (x5 + (1 : Int32)).toNatClampNeg) v).2
def p_L_law_1912 (N : Nat) (xs : Nat → Int32) (K28 : Int32 → gV → Int32 × gV)  (PK28 : Int32 → gV → Prop)  (x5 : Int32) (s0 : Int32) (v : gV) : Prop := (vp_in (x5 + (1 : Int32)) N) ∧ ((p_X12_recovered (xs (x5 + (1 : Int32)).toNatClampNeg) v) ∧ (p_L_law_1924 N xs K28 PK28 x5 s0 ((f_X12_recovered (xs (x5 + (1 : Int32)).toNatClampNeg) v).1) (f_X12_recovered (xs (x5 + (1 : Int32)).toNatClampNeg) v).2))
set_option maxHeartbeats 4000000 in
set_option maxRecDepth 100000 in
theorem w_L_law_1912 {E : gE} {d : Nat} {Q : gO → gS → Prop} (nf : Nat) (N : Nat) (xs : Nat → Int32) (hN : gva E 201 = N) (hxs : gxs E = xs) (hd : 16 ≤ d) (K28 : Int32 → gV → Int32 × gV)  (PK28 : Int32 → gV → Prop)  (hK28 : ∀ (x5 : Int32) (v : gV), PK28 x5 v → gqIV Q (K28 x5 v) → gG E m_L_law d Q (322 * nf) (2566 * nf) (rS v) 28 [(0, .ref (gva E 200)), (1, .ref (gX E + 0)), (2, .ref (gX E + 559)), (3, .ref (gX E + 570)), (4, .ref (gX E + 571)), (5, .int x5)] [])  (x5 : Int32) (s0 : Int32) (v : gV) (hp : p_L_law_1912 N xs K28 PK28 x5 s0 v) (hQ : gqIV Q (f_L_law_1912 N xs K28 x5 s0 v)) : gG E m_L_law d Q (322 * nf + 0) (2566 * nf + 0) (rS v) 1912 [(0, .ref (gva E 200)), (1, .ref (gX E + 0)), (2, .ref (gX E + 559)), (3, .ref (gX E + 570)), (4, .ref (gX E + 571)), (5, .int x5)] [.int s0] := by
  refine g_istore [(6, .int s0), (0, .ref (gva E 200)), (1, .ref (gX E + 0)), (2, .ref (gX E + 559)), (3, .ref (gX E + 570)), (4, .ref (gX E + 571)), (5, .int x5)] dL_law_1912 (by decide) rfl ?_
  refine g_aload_n 3 dL_law_1914 rfl ?_
  refine g_aload_n 1 dL_law_1915 rfl ?_
  refine g_iload 6 dL_law_1916 rfl ?_
  refine g_iconst dL_law_1918 (1 : Int32) (by decide) ?_
  refine g_iadd dL_law_1919 ?_
  obtain ⟨h270, hp⟩ := hp
  refine g_sld hN hxs h270 dL_law_1920 ?_
  obtain ⟨h271, hp⟩ := hp
  refine g_callV (rest := []) s_L_290_X12 rfl (c_X12_recovered (E := E) (d := d - 1)   (by omega) (xs (x5 + (1 : Int32)).toNatClampNeg) v h271) (by decide : kd 559 = (0, 9)) (show 559 < 572 by decide) rfl rfl (Nat.le_of_ble_eq_true rfl) (by omega) (by omega) (by omega) dL_law_1921 (adV ?_) axN
  refine g_room (k' := (322 * nf + 0)) (n' := (2566 * nf + 0)) (by omega) (by omega) ?_
  refine g_lv (lv' := [(0, .ref (gva E 200)), (1, .ref (gX E + 0)), (2, .ref (gX E + 559)), (3, .ref (gX E + 570)), (4, .ref (gX E + 571)), (5, .int x5), (6, .int s0)]) [1, 2, 3, 4, 5, 6, 0] rfl ?_
  exact w_L_law_1924 nf N xs hN hxs hd K28 PK28 hK28 x5 s0 ((f_X12_recovered (xs (x5 + (1 : Int32)).toNatClampNeg) v).1) (f_X12_recovered (xs (x5 + (1 : Int32)).toNatClampNeg) v).2 hp hQ
def f_L_law_1901 (N : Nat) (xs : Nat → Int32) (K28 : Int32 → gV → Int32 × gV)  (x5 : Int32) (v : gV) : Int32 × gV := f_L_law_1912 N xs K28 x5 ((f_L_recovered (xs (x5 + (1 : Int32)).toNatClampNeg) v).1) (f_L_recovered (xs (x5 + (1 : Int32)).toNatClampNeg) v).2
def p_L_law_1901 (N : Nat) (xs : Nat → Int32) (K28 : Int32 → gV → Int32 × gV)  (PK28 : Int32 → gV → Prop)  (x5 : Int32) (v : gV) : Prop := (vp_in (x5 + (1 : Int32)) N) ∧ ((p_L_recovered (xs (x5 + (1 : Int32)).toNatClampNeg) v) ∧ (p_L_law_1912 N xs K28 PK28 x5 ((f_L_recovered (xs (x5 + (1 : Int32)).toNatClampNeg) v).1) (f_L_recovered (xs (x5 + (1 : Int32)).toNatClampNeg) v).2))
set_option maxHeartbeats 4000000 in
set_option maxRecDepth 100000 in
theorem w_L_law_1901 {E : gE} {d : Nat} {Q : gO → gS → Prop} (nf : Nat) (N : Nat) (xs : Nat → Int32) (hN : gva E 201 = N) (hxs : gxs E = xs) (hd : 16 ≤ d) (K28 : Int32 → gV → Int32 × gV)  (PK28 : Int32 → gV → Prop)  (hK28 : ∀ (x5 : Int32) (v : gV), PK28 x5 v → gqIV Q (K28 x5 v) → gG E m_L_law d Q (322 * nf) (2566 * nf) (rS v) 28 [(0, .ref (gva E 200)), (1, .ref (gX E + 0)), (2, .ref (gX E + 559)), (3, .ref (gX E + 570)), (4, .ref (gX E + 571)), (5, .int x5)] [])  (x5 : Int32) (v : gV) (hp : p_L_law_1901 N xs K28 PK28 x5 v) (hQ : gqIV Q (f_L_law_1901 N xs K28 x5 v)) : gG E m_L_law d Q (322 * nf + 1) (2566 * nf + 6) (rS v) 1901 [(0, .ref (gva E 200)), (1, .ref (gX E + 0)), (2, .ref (gX E + 559)), (3, .ref (gX E + 570)), (4, .ref (gX E + 571)), (5, .int x5)] [] := by
  refine g_aload_n 1 dL_law_1901 rfl ?_
  refine g_aload_n 0 dL_law_1902 rfl ?_
  refine g_iload 5 dL_law_1903 rfl ?_
  refine g_iconst dL_law_1905 (1 : Int32) (by decide) ?_
  refine g_iadd dL_law_1906 ?_
  obtain ⟨h268, hp⟩ := hp
  refine g_sld hN hxs h268 dL_law_1907 ?_
  refine g_aload_n 3 dL_law_1908 rfl ?_
  obtain ⟨h269, hp⟩ := hp
  refine g_callT (rest := []) s_L_288 rfl (c_L_recovered (E := E) (d := d - 1)   (by omega) (xs (x5 + (1 : Int32)).toNatClampNeg) v h269) cqn rfl rfl (Nat.le_of_ble_eq_true rfl) (by omega) (by omega) (by omega) dL_law_1909 (adV ?_)
  refine g_room (k' := (322 * nf + 0)) (n' := (2566 * nf + 0)) (by omega) (by omega) ?_
  exact w_L_law_1912 nf N xs hN hxs hd K28 PK28 hK28 x5 ((f_L_recovered (xs (x5 + (1 : Int32)).toNatClampNeg) v).1) (f_L_recovered (xs (x5 + (1 : Int32)).toNatClampNeg) v).2 hp hQ
def f_L_law_1965 (N : Nat) (xs : Nat → Int32) (K28 : Int32 → gV → Int32 × gV)  (x5 : Int32) (s0 : Int32) (s1 : Int32) (v : gV) : Int32 × gV := if s1 = s0 then (f_L_law_3401 N xs K28 x5 v) else (((0 : Int32), v))
def p_L_law_1965 (N : Nat) (xs : Nat → Int32) (K28 : Int32 → gV → Int32 × gV)  (PK28 : Int32 → gV → Prop)  (x5 : Int32) (s0 : Int32) (s1 : Int32) (v : gV) : Prop := ((s1 = s0) → (p_L_law_3401 N xs K28 PK28 x5 v)) ∧ (¬ (s1 = s0) → (True))
set_option maxHeartbeats 4000000 in
set_option maxRecDepth 100000 in
theorem w_L_law_1965 {E : gE} {d : Nat} {Q : gO → gS → Prop} (nf : Nat) (N : Nat) (xs : Nat → Int32) (hN : gva E 201 = N) (hxs : gxs E = xs) (hd : 16 ≤ d) (K28 : Int32 → gV → Int32 × gV)  (PK28 : Int32 → gV → Prop)  (hK28 : ∀ (x5 : Int32) (v : gV), PK28 x5 v → gqIV Q (K28 x5 v) → gG E m_L_law d Q (322 * nf) (2566 * nf) (rS v) 28 [(0, .ref (gva E 200)), (1, .ref (gX E + 0)), (2, .ref (gX E + 559)), (3, .ref (gX E + 570)), (4, .ref (gX E + 571)), (5, .int x5)] [])  (x5 : Int32) (s0 : Int32) (s1 : Int32) (v : gV) (hp : p_L_law_1965 N xs K28 PK28 x5 s0 s1 v) (hQ : gqIV Q (f_L_law_1965 N xs K28 x5 s0 s1 v)) : gG E m_L_law d Q (322 * nf + 0) (2566 * nf + 0) (rS v) 1965 [(0, .ref (gva E 200)), (1, .ref (gX E + 0)), (2, .ref (gX E + 559)), (3, .ref (gX E + 570)), (4, .ref (gX E + 571)), (5, .int x5)] [.int s0, .int s1] := by
  refine g_icmp_eq 3401 dL_law_1965 (by decide) (fun h279 => ?_) (fun h279 => ?_)
  · have hQ := qp (P := gqIV Q) h279 hQ
    have hp := hp.1 h279
    refine g_room (k' := (322 * nf + 0)) (n' := (2566 * nf + 0)) (by omega) (by omega) ?_
    exact w_L_law_3401 nf N xs hN hxs hd K28 PK28 hK28 x5 v hp hQ
  · have hQ := qn (P := gqIV Q) h279 hQ
    have hp := hp.2 h279
    refine g_iconst dL_law_1968 (0 : Int32) (by decide) ?_
    exact g_zret rfl rfl dL_law_1969 hQ
def f_L_law_1957 (N : Nat) (xs : Nat → Int32) (K28 : Int32 → gV → Int32 × gV)  (x5 : Int32) (v : gV) : Int32 × gV := f_L_law_1965 N xs K28 x5 ((f_X12_treatyCount  v).1) (f_X11_treatyCount  v) (f_X12_treatyCount  v).2
def p_L_law_1957 (N : Nat) (xs : Nat → Int32) (K28 : Int32 → gV → Int32 × gV)  (PK28 : Int32 → gV → Prop)  (x5 : Int32) (v : gV) : Prop := (p_X11_treatyCount  v) ∧ ((p_X12_treatyCount  v) ∧ (p_L_law_1965 N xs K28 PK28 x5 ((f_X12_treatyCount  v).1) (f_X11_treatyCount  v) (f_X12_treatyCount  v).2))
set_option maxHeartbeats 4000000 in
set_option maxRecDepth 100000 in
theorem w_L_law_1957 {E : gE} {d : Nat} {Q : gO → gS → Prop} (nf : Nat) (N : Nat) (xs : Nat → Int32) (hN : gva E 201 = N) (hxs : gxs E = xs) (hd : 16 ≤ d) (K28 : Int32 → gV → Int32 × gV)  (PK28 : Int32 → gV → Prop)  (hK28 : ∀ (x5 : Int32) (v : gV), PK28 x5 v → gqIV Q (K28 x5 v) → gG E m_L_law d Q (322 * nf) (2566 * nf) (rS v) 28 [(0, .ref (gva E 200)), (1, .ref (gX E + 0)), (2, .ref (gX E + 559)), (3, .ref (gX E + 570)), (4, .ref (gX E + 571)), (5, .int x5)] [])  (x5 : Int32) (v : gV) (hp : p_L_law_1957 N xs K28 PK28 x5 v) (hQ : gqIV Q (f_L_law_1957 N xs K28 x5 v)) : gG E m_L_law d Q (322 * nf + 0) (2566 * nf + 0) (rS v) 1957 [(0, .ref (gva E 200)), (1, .ref (gX E + 0)), (2, .ref (gX E + 559)), (3, .ref (gX E + 570)), (4, .ref (gX E + 571)), (5, .int x5)] [] := by
  refine g_aload_n 1 dL_law_1957 rfl ?_
  obtain ⟨h277, hp⟩ := hp
  refine g_callV (rest := []) s_L_291_X11 rfl (c_X11_treatyCount (E := E) (d := d - 1)   (by omega)  v h277) (by decide : kd 0 = (0, 8)) (show 0 < 572 by decide) rfl rfl (Nat.le_of_ble_eq_true rfl) (by omega) (by omega) (by omega) dL_law_1958 (adV ?_) axN
  refine g_aload_n 2 dL_law_1961 rfl ?_
  obtain ⟨h278, hp⟩ := hp
  refine g_callV (rest := [.int ((f_X11_treatyCount  v))]) s_L_294_X12 rfl (c_X12_treatyCount (E := E) (d := d - 1)   (by omega)  v h278) (by decide : kd 559 = (0, 9)) (show 559 < 572 by decide) rfl rfl (Nat.le_of_ble_eq_true rfl) (by omega) (by omega) (by omega) dL_law_1962 (adV ?_) axN
  refine g_room (k' := (322 * nf + 0)) (n' := (2566 * nf + 0)) (by omega) (by omega) ?_
  exact w_L_law_1965 nf N xs hN hxs hd K28 PK28 hK28 x5 ((f_X12_treatyCount  v).1) (f_X11_treatyCount  v) (f_X12_treatyCount  v).2 hp hQ
def f_L_law_2023 (N : Nat) (xs : Nat → Int32) (K28 : Int32 → gV → Int32 × gV)  (x5 : Int32) (v : gV) : Int32 × gV := f_L_law_3401 N xs K28 x5 v
def p_L_law_2023 (N : Nat) (xs : Nat → Int32) (K28 : Int32 → gV → Int32 × gV)  (PK28 : Int32 → gV → Prop)  (x5 : Int32) (v : gV) : Prop := p_L_law_3401 N xs K28 PK28 x5 v
set_option maxHeartbeats 4000000 in
set_option maxRecDepth 100000 in
theorem w_L_law_2023 {E : gE} {d : Nat} {Q : gO → gS → Prop} (nf : Nat) (N : Nat) (xs : Nat → Int32) (hN : gva E 201 = N) (hxs : gxs E = xs) (hd : 16 ≤ d) (K28 : Int32 → gV → Int32 × gV)  (PK28 : Int32 → gV → Prop)  (hK28 : ∀ (x5 : Int32) (v : gV), PK28 x5 v → gqIV Q (K28 x5 v) → gG E m_L_law d Q (322 * nf) (2566 * nf) (rS v) 28 [(0, .ref (gva E 200)), (1, .ref (gX E + 0)), (2, .ref (gX E + 559)), (3, .ref (gX E + 570)), (4, .ref (gX E + 571)), (5, .int x5)] [])  (x5 : Int32) (v : gV) (hp : p_L_law_2023 N xs K28 PK28 x5 v) (hQ : gqIV Q (f_L_law_2023 N xs K28 x5 v)) : gG E m_L_law d Q (322 * nf + 0) (2566 * nf + 0) (rS v) 2023 [(0, .ref (gva E 200)), (1, .ref (gX E + 0)), (2, .ref (gX E + 559)), (3, .ref (gX E + 570)), (4, .ref (gX E + 571)), (5, .int x5)] [] := by
  refine g_goto 3401 dL_law_2023 (by decide) ?_
  refine g_room (k' := (322 * nf + 0)) (n' := (2566 * nf + 0)) (by omega) (by omega) ?_
  exact w_L_law_3401 nf N xs hN hxs hd K28 PK28 hK28 x5 v hp hQ
def f_L_law_1993 (N : Nat) (xs : Nat → Int32) (K28 : Int32 → gV → Int32 × gV)  (x5 : Int32) (x6 : Int32) (s0 : Int32) (v : gV) : Int32 × gV := if (f_X12_thrown  v) = x6 then (if x6 = 0 then (if (lg_cmp (v.2.1 570 (0 : Int32).toNatClampNeg) s0.toInt64) = 0 then (f_L_law_2023 N xs K28 x5 v) else (((0 : Int32), v))) else (f_L_law_2023 N xs K28 x5 v)) else (((0 : Int32), v))
def p_L_law_1993 (N : Nat) (xs : Nat → Int32) (K28 : Int32 → gV → Int32 × gV)  (PK28 : Int32 → gV → Prop)  (x5 : Int32) (x6 : Int32) (s0 : Int32) (v : gV) : Prop := (p_X12_thrown  v) ∧ ((((f_X12_thrown  v) = x6) → (((x6 = 0) → ((((lg_cmp (v.2.1 570 (0 : Int32).toNatClampNeg) s0.toInt64) = 0) → (p_L_law_2023 N xs K28 PK28 x5 v)) ∧ (¬ ((lg_cmp (v.2.1 570 (0 : Int32).toNatClampNeg) s0.toInt64) = 0) → (True)))) ∧ (¬ (x6 = 0) → (p_L_law_2023 N xs K28 PK28 x5 v)))) ∧ (¬ ((f_X12_thrown  v) = x6) → (True)))
set_option maxHeartbeats 4000000 in
set_option maxRecDepth 100000 in
theorem w_L_law_1993 {E : gE} {d : Nat} {Q : gO → gS → Prop} (nf : Nat) (N : Nat) (xs : Nat → Int32) (hN : gva E 201 = N) (hxs : gxs E = xs) (hd : 16 ≤ d) (K28 : Int32 → gV → Int32 × gV)  (PK28 : Int32 → gV → Prop)  (hK28 : ∀ (x5 : Int32) (v : gV), PK28 x5 v → gqIV Q (K28 x5 v) → gG E m_L_law d Q (322 * nf) (2566 * nf) (rS v) 28 [(0, .ref (gva E 200)), (1, .ref (gX E + 0)), (2, .ref (gX E + 559)), (3, .ref (gX E + 570)), (4, .ref (gX E + 571)), (5, .int x5)] [])  (x5 : Int32) (x6 : Int32) (s0 : Int32) (v : gV) (hp : p_L_law_1993 N xs K28 PK28 x5 x6 s0 v) (hQ : gqIV Q (f_L_law_1993 N xs K28 x5 x6 s0 v)) : gG E m_L_law d Q (322 * nf + 0) (2566 * nf + 0) (rS v) 1993 [(0, .ref (gva E 200)), (1, .ref (gX E + 0)), (2, .ref (gX E + 559)), (3, .ref (gX E + 570)), (4, .ref (gX E + 571)), (5, .int x5), (6, .int x6)] [.int s0] := by
  refine g_istore [(7, .int s0), (0, .ref (gva E 200)), (1, .ref (gX E + 0)), (2, .ref (gX E + 559)), (3, .ref (gX E + 570)), (4, .ref (gX E + 571)), (5, .int x5), (6, .int x6)] dL_law_1993 (by decide) rfl ?_
  refine g_aload_n 3 dL_law_1995 rfl ?_
  obtain ⟨h285, hp⟩ := hp
  refine g_callV (rest := []) s_L_193_X12 rfl (c_X12_thrown (E := E) (d := d - 1)   (by omega)  v h285) (by decide : kd 559 = (0, 9)) (show 559 < 572 by decide) rfl rfl (Nat.le_of_ble_eq_true rfl) (by omega) (by omega) (by omega) dL_law_1996 (adV ?_) axN
  refine g_iload 7 dL_law_1999 rfl ?_
  refine g_icmp_eq 2006 dL_law_2001 (by decide) (fun h286 => ?_) (fun h286 => ?_)
  · have hQ := qp (P := gqIV Q) h286 hQ
    have hp := hp.1 h286
    refine g_iload 7 dL_law_2006 rfl ?_
    refine g_if_ne 2023 dL_law_2008 (by decide) (fun h287 => ?_) (fun h287 => ?_)
    · have hQ := qn (P := gqIV Q) h287 hQ
      have hp := hp.2 h287
      refine g_room (k' := (322 * nf + 0)) (n' := (2566 * nf + 0)) (by omega) (by omega) ?_
      refine g_lv (lv' := [(0, .ref (gva E 200)), (1, .ref (gX E + 0)), (2, .ref (gX E + 559)), (3, .ref (gX E + 570)), (4, .ref (gX E + 571)), (5, .int x5)]) [1, 2, 3, 4, 5, 6] rfl ?_
      exact w_L_law_2023 nf N xs hN hxs hd K28 PK28 hK28 x5 v hp hQ
    · have hQ := qp (P := gqIV Q) h287 hQ
      have hp := hp.1 h287
      refine g_aload_n 4 dL_law_2011 rfl ?_
      refine g_iconst dL_law_2012 (0 : Int32) (by decide) ?_
      refine g_lald (by decide : kd 570 = (3, 1)) (show 570 < 572 by decide) (show ¬ (_ ∨ _) by decide) dL_law_2013 ?_
      refine g_iload 0 dL_law_2014 rfl ?_
      refine g_i2l dL_law_2016 ?_
      refine g_lcmp dL_law_2017 ?_
      refine g_if_eq 2023 dL_law_2018 (by decide) (fun h288 => ?_) (fun h288 => ?_)
      · have hQ := qp (P := gqIV Q) h288 hQ
        have hp := hp.1 h288
        refine g_room (k' := (322 * nf + 0)) (n' := (2566 * nf + 0)) (by omega) (by omega) ?_
        refine g_lv (lv' := [(0, .ref (gva E 200)), (1, .ref (gX E + 0)), (2, .ref (gX E + 559)), (3, .ref (gX E + 570)), (4, .ref (gX E + 571)), (5, .int x5)]) [1, 2, 3, 4, 5, 6] rfl ?_
        exact w_L_law_2023 nf N xs hN hxs hd K28 PK28 hK28 x5 v hp hQ
      · have hQ := qn (P := gqIV Q) h288 hQ
        have hp := hp.2 h288
        refine g_iconst dL_law_2021 (0 : Int32) (by decide) ?_
        exact g_zret rfl rfl dL_law_2022 hQ
  · have hQ := qn (P := gqIV Q) h286 hQ
    have hp := hp.2 h286
    refine g_iconst dL_law_2004 (0 : Int32) (by decide) ?_
    exact g_zret rfl rfl dL_law_2005 hQ
def f_L_law_1981 (N : Nat) (xs : Nat → Int32) (K28 : Int32 → gV → Int32 × gV)  (x5 : Int32) (s0 : Int32) (v : gV) : Int32 × gV := f_L_law_1993 N xs K28 x5 s0 ((f_X12_startOf (xs (x5 + (1 : Int32)).toNatClampNeg) v).1) (f_X12_startOf (xs (x5 + (1 : Int32)).toNatClampNeg) v).2
def p_L_law_1981 (N : Nat) (xs : Nat → Int32) (K28 : Int32 → gV → Int32 × gV)  (PK28 : Int32 → gV → Prop)  (x5 : Int32) (s0 : Int32) (v : gV) : Prop := (vp_in (x5 + (1 : Int32)) N) ∧ ((p_X12_startOf (xs (x5 + (1 : Int32)).toNatClampNeg) v) ∧ (p_L_law_1993 N xs K28 PK28 x5 s0 ((f_X12_startOf (xs (x5 + (1 : Int32)).toNatClampNeg) v).1) (f_X12_startOf (xs (x5 + (1 : Int32)).toNatClampNeg) v).2))
set_option maxHeartbeats 4000000 in
set_option maxRecDepth 100000 in
theorem w_L_law_1981 {E : gE} {d : Nat} {Q : gO → gS → Prop} (nf : Nat) (N : Nat) (xs : Nat → Int32) (hN : gva E 201 = N) (hxs : gxs E = xs) (hd : 16 ≤ d) (K28 : Int32 → gV → Int32 × gV)  (PK28 : Int32 → gV → Prop)  (hK28 : ∀ (x5 : Int32) (v : gV), PK28 x5 v → gqIV Q (K28 x5 v) → gG E m_L_law d Q (322 * nf) (2566 * nf) (rS v) 28 [(0, .ref (gva E 200)), (1, .ref (gX E + 0)), (2, .ref (gX E + 559)), (3, .ref (gX E + 570)), (4, .ref (gX E + 571)), (5, .int x5)] [])  (x5 : Int32) (s0 : Int32) (v : gV) (hp : p_L_law_1981 N xs K28 PK28 x5 s0 v) (hQ : gqIV Q (f_L_law_1981 N xs K28 x5 s0 v)) : gG E m_L_law d Q (322 * nf + 0) (2566 * nf + 0) (rS v) 1981 [(0, .ref (gva E 200)), (1, .ref (gX E + 0)), (2, .ref (gX E + 559)), (3, .ref (gX E + 570)), (4, .ref (gX E + 571)), (5, .int x5)] [.int s0] := by
  refine g_istore [(6, .int s0), (0, .ref (gva E 200)), (1, .ref (gX E + 0)), (2, .ref (gX E + 559)), (3, .ref (gX E + 570)), (4, .ref (gX E + 571)), (5, .int x5)] dL_law_1981 (by decide) rfl ?_
  refine g_aload_n 3 dL_law_1983 rfl ?_
  refine g_aload_n 1 dL_law_1984 rfl ?_
  refine g_iload 6 dL_law_1985 rfl ?_
  refine g_iconst dL_law_1987 (1 : Int32) (by decide) ?_
  refine g_iadd dL_law_1988 ?_
  obtain ⟨h283, hp⟩ := hp
  refine g_sld hN hxs h283 dL_law_1989 ?_
  obtain ⟨h284, hp⟩ := hp
  refine g_callV (rest := []) s_L_297_X12 rfl (c_X12_startOf (E := E) (d := d - 1)   (by omega) (xs (x5 + (1 : Int32)).toNatClampNeg) v h284) (by decide : kd 559 = (0, 9)) (show 559 < 572 by decide) rfl rfl (Nat.le_of_ble_eq_true rfl) (by omega) (by omega) (by omega) dL_law_1990 (adV ?_) axN
  refine g_room (k' := (322 * nf + 0)) (n' := (2566 * nf + 0)) (by omega) (by omega) ?_
  refine g_lv (lv' := [(0, .ref (gva E 200)), (1, .ref (gX E + 0)), (2, .ref (gX E + 559)), (3, .ref (gX E + 570)), (4, .ref (gX E + 571)), (5, .int x5), (6, .int s0)]) [1, 2, 3, 4, 5, 6, 0] rfl ?_
  exact w_L_law_1993 nf N xs hN hxs hd K28 PK28 hK28 x5 s0 ((f_X12_startOf (xs (x5 + (1 : Int32)).toNatClampNeg) v).1) (f_X12_startOf (xs (x5 + (1 : Int32)).toNatClampNeg) v).2 hp hQ
def f_L_law_1970 (N : Nat) (xs : Nat → Int32) (K28 : Int32 → gV → Int32 × gV)  (x5 : Int32) (v : gV) : Int32 × gV := f_L_law_1981 N xs K28 x5 ((f_L_startOf (xs (x5 + (1 : Int32)).toNatClampNeg) v).1) (f_L_startOf (xs (x5 + (1 : Int32)).toNatClampNeg) v).2
def p_L_law_1970 (N : Nat) (xs : Nat → Int32) (K28 : Int32 → gV → Int32 × gV)  (PK28 : Int32 → gV → Prop)  (x5 : Int32) (v : gV) : Prop := (vp_in (x5 + (1 : Int32)) N) ∧ ((p_L_startOf (xs (x5 + (1 : Int32)).toNatClampNeg) v) ∧ (p_L_law_1981 N xs K28 PK28 x5 ((f_L_startOf (xs (x5 + (1 : Int32)).toNatClampNeg) v).1) (f_L_startOf (xs (x5 + (1 : Int32)).toNatClampNeg) v).2))
set_option maxHeartbeats 4000000 in
set_option maxRecDepth 100000 in
theorem w_L_law_1970 {E : gE} {d : Nat} {Q : gO → gS → Prop} (nf : Nat) (N : Nat) (xs : Nat → Int32) (hN : gva E 201 = N) (hxs : gxs E = xs) (hd : 16 ≤ d) (K28 : Int32 → gV → Int32 × gV)  (PK28 : Int32 → gV → Prop)  (hK28 : ∀ (x5 : Int32) (v : gV), PK28 x5 v → gqIV Q (K28 x5 v) → gG E m_L_law d Q (322 * nf) (2566 * nf) (rS v) 28 [(0, .ref (gva E 200)), (1, .ref (gX E + 0)), (2, .ref (gX E + 559)), (3, .ref (gX E + 570)), (4, .ref (gX E + 571)), (5, .int x5)] [])  (x5 : Int32) (v : gV) (hp : p_L_law_1970 N xs K28 PK28 x5 v) (hQ : gqIV Q (f_L_law_1970 N xs K28 x5 v)) : gG E m_L_law d Q (322 * nf + 1) (2566 * nf + 6) (rS v) 1970 [(0, .ref (gva E 200)), (1, .ref (gX E + 0)), (2, .ref (gX E + 559)), (3, .ref (gX E + 570)), (4, .ref (gX E + 571)), (5, .int x5)] [] := by
  refine g_aload_n 1 dL_law_1970 rfl ?_
  refine g_aload_n 0 dL_law_1971 rfl ?_
  refine g_iload 5 dL_law_1972 rfl ?_
  refine g_iconst dL_law_1974 (1 : Int32) (by decide) ?_
  refine g_iadd dL_law_1975 ?_
  obtain ⟨h281, hp⟩ := hp
  refine g_sld hN hxs h281 dL_law_1976 ?_
  refine g_aload_n 3 dL_law_1977 rfl ?_
  obtain ⟨h282, hp⟩ := hp
  refine g_callT (rest := []) s_L_295 rfl (c_L_startOf (E := E) (d := d - 1)   (by omega) (xs (x5 + (1 : Int32)).toNatClampNeg) v h282) cqn rfl rfl (Nat.le_of_ble_eq_true rfl) (by omega) (by omega) (by omega) dL_law_1978 (adV ?_)
  refine g_room (k' := (322 * nf + 0)) (n' := (2566 * nf + 0)) (by omega) (by omega) ?_
  exact w_L_law_1981 nf N xs hN hxs hd K28 PK28 hK28 x5 ((f_L_startOf (xs (x5 + (1 : Int32)).toNatClampNeg) v).1) (f_L_startOf (xs (x5 + (1 : Int32)).toNatClampNeg) v).2 hp hQ
def f_L_law_2079 (N : Nat) (xs : Nat → Int32) (K28 : Int32 → gV → Int32 × gV)  (x5 : Int32) (v : gV) : Int32 × gV := f_L_law_3401 N xs K28 x5 v
def p_L_law_2079 (N : Nat) (xs : Nat → Int32) (K28 : Int32 → gV → Int32 × gV)  (PK28 : Int32 → gV → Prop)  (x5 : Int32) (v : gV) : Prop := p_L_law_3401 N xs K28 PK28 x5 v
set_option maxHeartbeats 4000000 in
set_option maxRecDepth 100000 in
theorem w_L_law_2079 {E : gE} {d : Nat} {Q : gO → gS → Prop} (nf : Nat) (N : Nat) (xs : Nat → Int32) (hN : gva E 201 = N) (hxs : gxs E = xs) (hd : 16 ≤ d) (K28 : Int32 → gV → Int32 × gV)  (PK28 : Int32 → gV → Prop)  (hK28 : ∀ (x5 : Int32) (v : gV), PK28 x5 v → gqIV Q (K28 x5 v) → gG E m_L_law d Q (322 * nf) (2566 * nf) (rS v) 28 [(0, .ref (gva E 200)), (1, .ref (gX E + 0)), (2, .ref (gX E + 559)), (3, .ref (gX E + 570)), (4, .ref (gX E + 571)), (5, .int x5)] [])  (x5 : Int32) (v : gV) (hp : p_L_law_2079 N xs K28 PK28 x5 v) (hQ : gqIV Q (f_L_law_2079 N xs K28 x5 v)) : gG E m_L_law d Q (322 * nf + 0) (2566 * nf + 0) (rS v) 2079 [(0, .ref (gva E 200)), (1, .ref (gX E + 0)), (2, .ref (gX E + 559)), (3, .ref (gX E + 570)), (4, .ref (gX E + 571)), (5, .int x5)] [] := by
  refine g_goto 3401 dL_law_2079 (by decide) ?_
  refine g_room (k' := (322 * nf + 0)) (n' := (2566 * nf + 0)) (by omega) (by omega) ?_
  exact w_L_law_3401 nf N xs hN hxs hd K28 PK28 hK28 x5 v hp hQ
def f_L_law_2049 (N : Nat) (xs : Nat → Int32) (K28 : Int32 → gV → Int32 × gV)  (x5 : Int32) (x6 : Int32) (s0 : Int32) (v : gV) : Int32 × gV := if (f_X12_thrown  v) = x6 then (if x6 = 0 then (if (lg_cmp (v.2.1 570 (0 : Int32).toNatClampNeg) s0.toInt64) = 0 then (f_L_law_2079 N xs K28 x5 v) else (((0 : Int32), v))) else (f_L_law_2079 N xs K28 x5 v)) else (((0 : Int32), v))
def p_L_law_2049 (N : Nat) (xs : Nat → Int32) (K28 : Int32 → gV → Int32 × gV)  (PK28 : Int32 → gV → Prop)  (x5 : Int32) (x6 : Int32) (s0 : Int32) (v : gV) : Prop := (p_X12_thrown  v) ∧ ((((f_X12_thrown  v) = x6) → (((x6 = 0) → ((((lg_cmp (v.2.1 570 (0 : Int32).toNatClampNeg) s0.toInt64) = 0) → (p_L_law_2079 N xs K28 PK28 x5 v)) ∧ (¬ ((lg_cmp (v.2.1 570 (0 : Int32).toNatClampNeg) s0.toInt64) = 0) → (True)))) ∧ (¬ (x6 = 0) → (p_L_law_2079 N xs K28 PK28 x5 v)))) ∧ (¬ ((f_X12_thrown  v) = x6) → (True)))
set_option maxHeartbeats 4000000 in
set_option maxRecDepth 100000 in
theorem w_L_law_2049 {E : gE} {d : Nat} {Q : gO → gS → Prop} (nf : Nat) (N : Nat) (xs : Nat → Int32) (hN : gva E 201 = N) (hxs : gxs E = xs) (hd : 16 ≤ d) (K28 : Int32 → gV → Int32 × gV)  (PK28 : Int32 → gV → Prop)  (hK28 : ∀ (x5 : Int32) (v : gV), PK28 x5 v → gqIV Q (K28 x5 v) → gG E m_L_law d Q (322 * nf) (2566 * nf) (rS v) 28 [(0, .ref (gva E 200)), (1, .ref (gX E + 0)), (2, .ref (gX E + 559)), (3, .ref (gX E + 570)), (4, .ref (gX E + 571)), (5, .int x5)] [])  (x5 : Int32) (x6 : Int32) (s0 : Int32) (v : gV) (hp : p_L_law_2049 N xs K28 PK28 x5 x6 s0 v) (hQ : gqIV Q (f_L_law_2049 N xs K28 x5 x6 s0 v)) : gG E m_L_law d Q (322 * nf + 0) (2566 * nf + 0) (rS v) 2049 [(0, .ref (gva E 200)), (1, .ref (gX E + 0)), (2, .ref (gX E + 559)), (3, .ref (gX E + 570)), (4, .ref (gX E + 571)), (5, .int x5), (6, .int x6)] [.int s0] := by
  refine g_istore [(7, .int s0), (0, .ref (gva E 200)), (1, .ref (gX E + 0)), (2, .ref (gX E + 559)), (3, .ref (gX E + 570)), (4, .ref (gX E + 571)), (5, .int x5), (6, .int x6)] dL_law_2049 (by decide) rfl ?_
  refine g_aload_n 3 dL_law_2051 rfl ?_
  obtain ⟨h294, hp⟩ := hp
  refine g_callV (rest := []) s_L_193_X12 rfl (c_X12_thrown (E := E) (d := d - 1)   (by omega)  v h294) (by decide : kd 559 = (0, 9)) (show 559 < 572 by decide) rfl rfl (Nat.le_of_ble_eq_true rfl) (by omega) (by omega) (by omega) dL_law_2052 (adV ?_) axN
  refine g_iload 7 dL_law_2055 rfl ?_
  refine g_icmp_eq 2062 dL_law_2057 (by decide) (fun h295 => ?_) (fun h295 => ?_)
  · have hQ := qp (P := gqIV Q) h295 hQ
    have hp := hp.1 h295
    refine g_iload 7 dL_law_2062 rfl ?_
    refine g_if_ne 2079 dL_law_2064 (by decide) (fun h296 => ?_) (fun h296 => ?_)
    · have hQ := qn (P := gqIV Q) h296 hQ
      have hp := hp.2 h296
      refine g_room (k' := (322 * nf + 0)) (n' := (2566 * nf + 0)) (by omega) (by omega) ?_
      refine g_lv (lv' := [(0, .ref (gva E 200)), (1, .ref (gX E + 0)), (2, .ref (gX E + 559)), (3, .ref (gX E + 570)), (4, .ref (gX E + 571)), (5, .int x5)]) [1, 2, 3, 4, 5, 6] rfl ?_
      exact w_L_law_2079 nf N xs hN hxs hd K28 PK28 hK28 x5 v hp hQ
    · have hQ := qp (P := gqIV Q) h296 hQ
      have hp := hp.1 h296
      refine g_aload_n 4 dL_law_2067 rfl ?_
      refine g_iconst dL_law_2068 (0 : Int32) (by decide) ?_
      refine g_lald (by decide : kd 570 = (3, 1)) (show 570 < 572 by decide) (show ¬ (_ ∨ _) by decide) dL_law_2069 ?_
      refine g_iload 0 dL_law_2070 rfl ?_
      refine g_i2l dL_law_2072 ?_
      refine g_lcmp dL_law_2073 ?_
      refine g_if_eq 2079 dL_law_2074 (by decide) (fun h297 => ?_) (fun h297 => ?_)
      · have hQ := qp (P := gqIV Q) h297 hQ
        have hp := hp.1 h297
        refine g_room (k' := (322 * nf + 0)) (n' := (2566 * nf + 0)) (by omega) (by omega) ?_
        refine g_lv (lv' := [(0, .ref (gva E 200)), (1, .ref (gX E + 0)), (2, .ref (gX E + 559)), (3, .ref (gX E + 570)), (4, .ref (gX E + 571)), (5, .int x5)]) [1, 2, 3, 4, 5, 6] rfl ?_
        exact w_L_law_2079 nf N xs hN hxs hd K28 PK28 hK28 x5 v hp hQ
      · have hQ := qn (P := gqIV Q) h297 hQ
        have hp := hp.2 h297
        refine g_iconst dL_law_2077 (0 : Int32) (by decide) ?_
        exact g_zret rfl rfl dL_law_2078 hQ
  · have hQ := qn (P := gqIV Q) h295 hQ
    have hp := hp.2 h295
    refine g_iconst dL_law_2060 (0 : Int32) (by decide) ?_
    exact g_zret rfl rfl dL_law_2061 hQ
def f_L_law_2037 (N : Nat) (xs : Nat → Int32) (K28 : Int32 → gV → Int32 × gV)  (x5 : Int32) (s0 : Int32) (v : gV) : Int32 × gV := f_L_law_2049 N xs K28 x5 s0 ((f_X12_capacityOf (xs (x5 + (1 : Int32)).toNatClampNeg) v).1) (f_X12_capacityOf (xs (x5 + (1 : Int32)).toNatClampNeg) v).2
def p_L_law_2037 (N : Nat) (xs : Nat → Int32) (K28 : Int32 → gV → Int32 × gV)  (PK28 : Int32 → gV → Prop)  (x5 : Int32) (s0 : Int32) (v : gV) : Prop := (vp_in (x5 + (1 : Int32)) N) ∧ ((p_X12_capacityOf (xs (x5 + (1 : Int32)).toNatClampNeg) v) ∧ (p_L_law_2049 N xs K28 PK28 x5 s0 ((f_X12_capacityOf (xs (x5 + (1 : Int32)).toNatClampNeg) v).1) (f_X12_capacityOf (xs (x5 + (1 : Int32)).toNatClampNeg) v).2))
set_option maxHeartbeats 4000000 in
set_option maxRecDepth 100000 in
theorem w_L_law_2037 {E : gE} {d : Nat} {Q : gO → gS → Prop} (nf : Nat) (N : Nat) (xs : Nat → Int32) (hN : gva E 201 = N) (hxs : gxs E = xs) (hd : 16 ≤ d) (K28 : Int32 → gV → Int32 × gV)  (PK28 : Int32 → gV → Prop)  (hK28 : ∀ (x5 : Int32) (v : gV), PK28 x5 v → gqIV Q (K28 x5 v) → gG E m_L_law d Q (322 * nf) (2566 * nf) (rS v) 28 [(0, .ref (gva E 200)), (1, .ref (gX E + 0)), (2, .ref (gX E + 559)), (3, .ref (gX E + 570)), (4, .ref (gX E + 571)), (5, .int x5)] [])  (x5 : Int32) (s0 : Int32) (v : gV) (hp : p_L_law_2037 N xs K28 PK28 x5 s0 v) (hQ : gqIV Q (f_L_law_2037 N xs K28 x5 s0 v)) : gG E m_L_law d Q (322 * nf + 0) (2566 * nf + 0) (rS v) 2037 [(0, .ref (gva E 200)), (1, .ref (gX E + 0)), (2, .ref (gX E + 559)), (3, .ref (gX E + 570)), (4, .ref (gX E + 571)), (5, .int x5)] [.int s0] := by
  refine g_istore [(6, .int s0), (0, .ref (gva E 200)), (1, .ref (gX E + 0)), (2, .ref (gX E + 559)), (3, .ref (gX E + 570)), (4, .ref (gX E + 571)), (5, .int x5)] dL_law_2037 (by decide) rfl ?_
  refine g_aload_n 3 dL_law_2039 rfl ?_
  refine g_aload_n 1 dL_law_2040 rfl ?_
  refine g_iload 6 dL_law_2041 rfl ?_
  refine g_iconst dL_law_2043 (1 : Int32) (by decide) ?_
  refine g_iadd dL_law_2044 ?_
  obtain ⟨h292, hp⟩ := hp
  refine g_sld hN hxs h292 dL_law_2045 ?_
  obtain ⟨h293, hp⟩ := hp
  refine g_callV (rest := []) s_L_300_X12 rfl (c_X12_capacityOf (E := E) (d := d - 1)   (by omega) (xs (x5 + (1 : Int32)).toNatClampNeg) v h293) (by decide : kd 559 = (0, 9)) (show 559 < 572 by decide) rfl rfl (Nat.le_of_ble_eq_true rfl) (by omega) (by omega) (by omega) dL_law_2046 (adV ?_) axN
  refine g_room (k' := (322 * nf + 0)) (n' := (2566 * nf + 0)) (by omega) (by omega) ?_
  refine g_lv (lv' := [(0, .ref (gva E 200)), (1, .ref (gX E + 0)), (2, .ref (gX E + 559)), (3, .ref (gX E + 570)), (4, .ref (gX E + 571)), (5, .int x5), (6, .int s0)]) [1, 2, 3, 4, 5, 6, 0] rfl ?_
  exact w_L_law_2049 nf N xs hN hxs hd K28 PK28 hK28 x5 s0 ((f_X12_capacityOf (xs (x5 + (1 : Int32)).toNatClampNeg) v).1) (f_X12_capacityOf (xs (x5 + (1 : Int32)).toNatClampNeg) v).2 hp hQ
def f_L_law_2026 (N : Nat) (xs : Nat → Int32) (K28 : Int32 → gV → Int32 × gV)  (x5 : Int32) (v : gV) : Int32 × gV := f_L_law_2037 N xs K28 x5 ((f_L_capacityOf (xs (x5 + (1 : Int32)).toNatClampNeg) v).1) (f_L_capacityOf (xs (x5 + (1 : Int32)).toNatClampNeg) v).2
def p_L_law_2026 (N : Nat) (xs : Nat → Int32) (K28 : Int32 → gV → Int32 × gV)  (PK28 : Int32 → gV → Prop)  (x5 : Int32) (v : gV) : Prop := (vp_in (x5 + (1 : Int32)) N) ∧ ((p_L_capacityOf (xs (x5 + (1 : Int32)).toNatClampNeg) v) ∧ (p_L_law_2037 N xs K28 PK28 x5 ((f_L_capacityOf (xs (x5 + (1 : Int32)).toNatClampNeg) v).1) (f_L_capacityOf (xs (x5 + (1 : Int32)).toNatClampNeg) v).2))
set_option maxHeartbeats 4000000 in
set_option maxRecDepth 100000 in
theorem w_L_law_2026 {E : gE} {d : Nat} {Q : gO → gS → Prop} (nf : Nat) (N : Nat) (xs : Nat → Int32) (hN : gva E 201 = N) (hxs : gxs E = xs) (hd : 16 ≤ d) (K28 : Int32 → gV → Int32 × gV)  (PK28 : Int32 → gV → Prop)  (hK28 : ∀ (x5 : Int32) (v : gV), PK28 x5 v → gqIV Q (K28 x5 v) → gG E m_L_law d Q (322 * nf) (2566 * nf) (rS v) 28 [(0, .ref (gva E 200)), (1, .ref (gX E + 0)), (2, .ref (gX E + 559)), (3, .ref (gX E + 570)), (4, .ref (gX E + 571)), (5, .int x5)] [])  (x5 : Int32) (v : gV) (hp : p_L_law_2026 N xs K28 PK28 x5 v) (hQ : gqIV Q (f_L_law_2026 N xs K28 x5 v)) : gG E m_L_law d Q (322 * nf + 1) (2566 * nf + 6) (rS v) 2026 [(0, .ref (gva E 200)), (1, .ref (gX E + 0)), (2, .ref (gX E + 559)), (3, .ref (gX E + 570)), (4, .ref (gX E + 571)), (5, .int x5)] [] := by
  refine g_aload_n 1 dL_law_2026 rfl ?_
  refine g_aload_n 0 dL_law_2027 rfl ?_
  refine g_iload 5 dL_law_2028 rfl ?_
  refine g_iconst dL_law_2030 (1 : Int32) (by decide) ?_
  refine g_iadd dL_law_2031 ?_
  obtain ⟨h290, hp⟩ := hp
  refine g_sld hN hxs h290 dL_law_2032 ?_
  refine g_aload_n 3 dL_law_2033 rfl ?_
  obtain ⟨h291, hp⟩ := hp
  refine g_callT (rest := []) s_L_298 rfl (c_L_capacityOf (E := E) (d := d - 1)   (by omega) (xs (x5 + (1 : Int32)).toNatClampNeg) v h291) cqn rfl rfl (Nat.le_of_ble_eq_true rfl) (by omega) (by omega) (by omega) dL_law_2034 (adV ?_)
  refine g_room (k' := (322 * nf + 0)) (n' := (2566 * nf + 0)) (by omega) (by omega) ?_
  exact w_L_law_2037 nf N xs hN hxs hd K28 PK28 hK28 x5 ((f_L_capacityOf (xs (x5 + (1 : Int32)).toNatClampNeg) v).1) (f_L_capacityOf (xs (x5 + (1 : Int32)).toNatClampNeg) v).2 hp hQ
def f_L_law_2135 (N : Nat) (xs : Nat → Int32) (K28 : Int32 → gV → Int32 × gV)  (x5 : Int32) (v : gV) : Int32 × gV := f_L_law_3401 N xs K28 x5 v
def p_L_law_2135 (N : Nat) (xs : Nat → Int32) (K28 : Int32 → gV → Int32 × gV)  (PK28 : Int32 → gV → Prop)  (x5 : Int32) (v : gV) : Prop := p_L_law_3401 N xs K28 PK28 x5 v
set_option maxHeartbeats 4000000 in
set_option maxRecDepth 100000 in
theorem w_L_law_2135 {E : gE} {d : Nat} {Q : gO → gS → Prop} (nf : Nat) (N : Nat) (xs : Nat → Int32) (hN : gva E 201 = N) (hxs : gxs E = xs) (hd : 16 ≤ d) (K28 : Int32 → gV → Int32 × gV)  (PK28 : Int32 → gV → Prop)  (hK28 : ∀ (x5 : Int32) (v : gV), PK28 x5 v → gqIV Q (K28 x5 v) → gG E m_L_law d Q (322 * nf) (2566 * nf) (rS v) 28 [(0, .ref (gva E 200)), (1, .ref (gX E + 0)), (2, .ref (gX E + 559)), (3, .ref (gX E + 570)), (4, .ref (gX E + 571)), (5, .int x5)] [])  (x5 : Int32) (v : gV) (hp : p_L_law_2135 N xs K28 PK28 x5 v) (hQ : gqIV Q (f_L_law_2135 N xs K28 x5 v)) : gG E m_L_law d Q (322 * nf + 0) (2566 * nf + 0) (rS v) 2135 [(0, .ref (gva E 200)), (1, .ref (gX E + 0)), (2, .ref (gX E + 559)), (3, .ref (gX E + 570)), (4, .ref (gX E + 571)), (5, .int x5)] [] := by
  refine g_goto 3401 dL_law_2135 (by decide) ?_
  refine g_room (k' := (322 * nf + 0)) (n' := (2566 * nf + 0)) (by omega) (by omega) ?_
  exact w_L_law_3401 nf N xs hN hxs hd K28 PK28 hK28 x5 v hp hQ
def f_L_law_2105 (N : Nat) (xs : Nat → Int32) (K28 : Int32 → gV → Int32 × gV)  (x5 : Int32) (x6 : Int32) (s0 : Int32) (v : gV) : Int32 × gV := if (f_X12_thrown  v) = x6 then (if x6 = 0 then (if (lg_cmp (v.2.1 570 (0 : Int32).toNatClampNeg) s0.toInt64) = 0 then (f_L_law_2135 N xs K28 x5 v) else (((0 : Int32), v))) else (f_L_law_2135 N xs K28 x5 v)) else (((0 : Int32), v))
def p_L_law_2105 (N : Nat) (xs : Nat → Int32) (K28 : Int32 → gV → Int32 × gV)  (PK28 : Int32 → gV → Prop)  (x5 : Int32) (x6 : Int32) (s0 : Int32) (v : gV) : Prop := (p_X12_thrown  v) ∧ ((((f_X12_thrown  v) = x6) → (((x6 = 0) → ((((lg_cmp (v.2.1 570 (0 : Int32).toNatClampNeg) s0.toInt64) = 0) → (p_L_law_2135 N xs K28 PK28 x5 v)) ∧ (¬ ((lg_cmp (v.2.1 570 (0 : Int32).toNatClampNeg) s0.toInt64) = 0) → (True)))) ∧ (¬ (x6 = 0) → (p_L_law_2135 N xs K28 PK28 x5 v)))) ∧ (¬ ((f_X12_thrown  v) = x6) → (True)))
set_option maxHeartbeats 4000000 in
set_option maxRecDepth 100000 in
theorem w_L_law_2105 {E : gE} {d : Nat} {Q : gO → gS → Prop} (nf : Nat) (N : Nat) (xs : Nat → Int32) (hN : gva E 201 = N) (hxs : gxs E = xs) (hd : 16 ≤ d) (K28 : Int32 → gV → Int32 × gV)  (PK28 : Int32 → gV → Prop)  (hK28 : ∀ (x5 : Int32) (v : gV), PK28 x5 v → gqIV Q (K28 x5 v) → gG E m_L_law d Q (322 * nf) (2566 * nf) (rS v) 28 [(0, .ref (gva E 200)), (1, .ref (gX E + 0)), (2, .ref (gX E + 559)), (3, .ref (gX E + 570)), (4, .ref (gX E + 571)), (5, .int x5)] [])  (x5 : Int32) (x6 : Int32) (s0 : Int32) (v : gV) (hp : p_L_law_2105 N xs K28 PK28 x5 x6 s0 v) (hQ : gqIV Q (f_L_law_2105 N xs K28 x5 x6 s0 v)) : gG E m_L_law d Q (322 * nf + 0) (2566 * nf + 0) (rS v) 2105 [(0, .ref (gva E 200)), (1, .ref (gX E + 0)), (2, .ref (gX E + 559)), (3, .ref (gX E + 570)), (4, .ref (gX E + 571)), (5, .int x5), (6, .int x6)] [.int s0] := by
  refine g_istore [(7, .int s0), (0, .ref (gva E 200)), (1, .ref (gX E + 0)), (2, .ref (gX E + 559)), (3, .ref (gX E + 570)), (4, .ref (gX E + 571)), (5, .int x5), (6, .int x6)] dL_law_2105 (by decide) rfl ?_
  refine g_aload_n 3 dL_law_2107 rfl ?_
  obtain ⟨h303, hp⟩ := hp
  refine g_callV (rest := []) s_L_193_X12 rfl (c_X12_thrown (E := E) (d := d - 1)   (by omega)  v h303) (by decide : kd 559 = (0, 9)) (show 559 < 572 by decide) rfl rfl (Nat.le_of_ble_eq_true rfl) (by omega) (by omega) (by omega) dL_law_2108 (adV ?_) axN
  refine g_iload 7 dL_law_2111 rfl ?_
  refine g_icmp_eq 2118 dL_law_2113 (by decide) (fun h304 => ?_) (fun h304 => ?_)
  · have hQ := qp (P := gqIV Q) h304 hQ
    have hp := hp.1 h304
    refine g_iload 7 dL_law_2118 rfl ?_
    refine g_if_ne 2135 dL_law_2120 (by decide) (fun h305 => ?_) (fun h305 => ?_)
    · have hQ := qn (P := gqIV Q) h305 hQ
      have hp := hp.2 h305
      refine g_room (k' := (322 * nf + 0)) (n' := (2566 * nf + 0)) (by omega) (by omega) ?_
      refine g_lv (lv' := [(0, .ref (gva E 200)), (1, .ref (gX E + 0)), (2, .ref (gX E + 559)), (3, .ref (gX E + 570)), (4, .ref (gX E + 571)), (5, .int x5)]) [1, 2, 3, 4, 5, 6] rfl ?_
      exact w_L_law_2135 nf N xs hN hxs hd K28 PK28 hK28 x5 v hp hQ
    · have hQ := qp (P := gqIV Q) h305 hQ
      have hp := hp.1 h305
      refine g_aload_n 4 dL_law_2123 rfl ?_
      refine g_iconst dL_law_2124 (0 : Int32) (by decide) ?_
      refine g_lald (by decide : kd 570 = (3, 1)) (show 570 < 572 by decide) (show ¬ (_ ∨ _) by decide) dL_law_2125 ?_
      refine g_iload 0 dL_law_2126 rfl ?_
      refine g_i2l dL_law_2128 ?_
      refine g_lcmp dL_law_2129 ?_
      refine g_if_eq 2135 dL_law_2130 (by decide) (fun h306 => ?_) (fun h306 => ?_)
      · have hQ := qp (P := gqIV Q) h306 hQ
        have hp := hp.1 h306
        refine g_room (k' := (322 * nf + 0)) (n' := (2566 * nf + 0)) (by omega) (by omega) ?_
        refine g_lv (lv' := [(0, .ref (gva E 200)), (1, .ref (gX E + 0)), (2, .ref (gX E + 559)), (3, .ref (gX E + 570)), (4, .ref (gX E + 571)), (5, .int x5)]) [1, 2, 3, 4, 5, 6] rfl ?_
        exact w_L_law_2135 nf N xs hN hxs hd K28 PK28 hK28 x5 v hp hQ
      · have hQ := qn (P := gqIV Q) h306 hQ
        have hp := hp.2 h306
        refine g_iconst dL_law_2133 (0 : Int32) (by decide) ?_
        exact g_zret rfl rfl dL_law_2134 hQ
  · have hQ := qn (P := gqIV Q) h304 hQ
    have hp := hp.2 h304
    refine g_iconst dL_law_2116 (0 : Int32) (by decide) ?_
    exact g_zret rfl rfl dL_law_2117 hQ
def f_L_law_2093 (N : Nat) (xs : Nat → Int32) (K28 : Int32 → gV → Int32 × gV)  (x5 : Int32) (s0 : Int32) (v : gV) : Int32 × gV := f_L_law_2105 N xs K28 x5 s0 ((f_X12_borne (xs (x5 + (1 : Int32)).toNatClampNeg) v).1) (f_X12_borne (xs (x5 + (1 : Int32)).toNatClampNeg) v).2
def p_L_law_2093 (N : Nat) (xs : Nat → Int32) (K28 : Int32 → gV → Int32 × gV)  (PK28 : Int32 → gV → Prop)  (x5 : Int32) (s0 : Int32) (v : gV) : Prop := (vp_in (x5 + (1 : Int32)) N) ∧ ((p_X12_borne (xs (x5 + (1 : Int32)).toNatClampNeg) v) ∧ (p_L_law_2105 N xs K28 PK28 x5 s0 ((f_X12_borne (xs (x5 + (1 : Int32)).toNatClampNeg) v).1) (f_X12_borne (xs (x5 + (1 : Int32)).toNatClampNeg) v).2))
set_option maxHeartbeats 4000000 in
set_option maxRecDepth 100000 in
theorem w_L_law_2093 {E : gE} {d : Nat} {Q : gO → gS → Prop} (nf : Nat) (N : Nat) (xs : Nat → Int32) (hN : gva E 201 = N) (hxs : gxs E = xs) (hd : 16 ≤ d) (K28 : Int32 → gV → Int32 × gV)  (PK28 : Int32 → gV → Prop)  (hK28 : ∀ (x5 : Int32) (v : gV), PK28 x5 v → gqIV Q (K28 x5 v) → gG E m_L_law d Q (322 * nf) (2566 * nf) (rS v) 28 [(0, .ref (gva E 200)), (1, .ref (gX E + 0)), (2, .ref (gX E + 559)), (3, .ref (gX E + 570)), (4, .ref (gX E + 571)), (5, .int x5)] [])  (x5 : Int32) (s0 : Int32) (v : gV) (hp : p_L_law_2093 N xs K28 PK28 x5 s0 v) (hQ : gqIV Q (f_L_law_2093 N xs K28 x5 s0 v)) : gG E m_L_law d Q (322 * nf + 0) (2566 * nf + 0) (rS v) 2093 [(0, .ref (gva E 200)), (1, .ref (gX E + 0)), (2, .ref (gX E + 559)), (3, .ref (gX E + 570)), (4, .ref (gX E + 571)), (5, .int x5)] [.int s0] := by
  refine g_istore [(6, .int s0), (0, .ref (gva E 200)), (1, .ref (gX E + 0)), (2, .ref (gX E + 559)), (3, .ref (gX E + 570)), (4, .ref (gX E + 571)), (5, .int x5)] dL_law_2093 (by decide) rfl ?_
  refine g_aload_n 3 dL_law_2095 rfl ?_
  refine g_aload_n 1 dL_law_2096 rfl ?_
  refine g_iload 6 dL_law_2097 rfl ?_
  refine g_iconst dL_law_2099 (1 : Int32) (by decide) ?_
  refine g_iadd dL_law_2100 ?_
  obtain ⟨h301, hp⟩ := hp
  refine g_sld hN hxs h301 dL_law_2101 ?_
  obtain ⟨h302, hp⟩ := hp
  refine g_callV (rest := []) s_L_303_X12 rfl (c_X12_borne (E := E) (d := d - 1)   (by omega) (xs (x5 + (1 : Int32)).toNatClampNeg) v h302) (by decide : kd 559 = (0, 9)) (show 559 < 572 by decide) rfl rfl (Nat.le_of_ble_eq_true rfl) (by omega) (by omega) (by omega) dL_law_2102 (adV ?_) axN
  refine g_room (k' := (322 * nf + 0)) (n' := (2566 * nf + 0)) (by omega) (by omega) ?_
  refine g_lv (lv' := [(0, .ref (gva E 200)), (1, .ref (gX E + 0)), (2, .ref (gX E + 559)), (3, .ref (gX E + 570)), (4, .ref (gX E + 571)), (5, .int x5), (6, .int s0)]) [1, 2, 3, 4, 5, 6, 0] rfl ?_
  exact w_L_law_2105 nf N xs hN hxs hd K28 PK28 hK28 x5 s0 ((f_X12_borne (xs (x5 + (1 : Int32)).toNatClampNeg) v).1) (f_X12_borne (xs (x5 + (1 : Int32)).toNatClampNeg) v).2 hp hQ
def f_L_law_2082 (N : Nat) (xs : Nat → Int32) (K28 : Int32 → gV → Int32 × gV)  (x5 : Int32) (v : gV) : Int32 × gV := f_L_law_2093 N xs K28 x5 ((f_L_borne (xs (x5 + (1 : Int32)).toNatClampNeg) v).1) (f_L_borne (xs (x5 + (1 : Int32)).toNatClampNeg) v).2
def p_L_law_2082 (N : Nat) (xs : Nat → Int32) (K28 : Int32 → gV → Int32 × gV)  (PK28 : Int32 → gV → Prop)  (x5 : Int32) (v : gV) : Prop := (vp_in (x5 + (1 : Int32)) N) ∧ ((p_L_borne (xs (x5 + (1 : Int32)).toNatClampNeg) v) ∧ (p_L_law_2093 N xs K28 PK28 x5 ((f_L_borne (xs (x5 + (1 : Int32)).toNatClampNeg) v).1) (f_L_borne (xs (x5 + (1 : Int32)).toNatClampNeg) v).2))
set_option maxHeartbeats 4000000 in
set_option maxRecDepth 100000 in
theorem w_L_law_2082 {E : gE} {d : Nat} {Q : gO → gS → Prop} (nf : Nat) (N : Nat) (xs : Nat → Int32) (hN : gva E 201 = N) (hxs : gxs E = xs) (hd : 16 ≤ d) (K28 : Int32 → gV → Int32 × gV)  (PK28 : Int32 → gV → Prop)  (hK28 : ∀ (x5 : Int32) (v : gV), PK28 x5 v → gqIV Q (K28 x5 v) → gG E m_L_law d Q (322 * nf) (2566 * nf) (rS v) 28 [(0, .ref (gva E 200)), (1, .ref (gX E + 0)), (2, .ref (gX E + 559)), (3, .ref (gX E + 570)), (4, .ref (gX E + 571)), (5, .int x5)] [])  (x5 : Int32) (v : gV) (hp : p_L_law_2082 N xs K28 PK28 x5 v) (hQ : gqIV Q (f_L_law_2082 N xs K28 x5 v)) : gG E m_L_law d Q (322 * nf + 1) (2566 * nf + 6) (rS v) 2082 [(0, .ref (gva E 200)), (1, .ref (gX E + 0)), (2, .ref (gX E + 559)), (3, .ref (gX E + 570)), (4, .ref (gX E + 571)), (5, .int x5)] [] := by
  refine g_aload_n 1 dL_law_2082 rfl ?_
  refine g_aload_n 0 dL_law_2083 rfl ?_
  refine g_iload 5 dL_law_2084 rfl ?_
  refine g_iconst dL_law_2086 (1 : Int32) (by decide) ?_
  refine g_iadd dL_law_2087 ?_
  obtain ⟨h299, hp⟩ := hp
  refine g_sld hN hxs h299 dL_law_2088 ?_
  refine g_aload_n 3 dL_law_2089 rfl ?_
  obtain ⟨h300, hp⟩ := hp
  refine g_callT (rest := []) s_L_301 rfl (c_L_borne (E := E) (d := d - 1)   (by omega) (xs (x5 + (1 : Int32)).toNatClampNeg) v h300) cqn rfl rfl (Nat.le_of_ble_eq_true rfl) (by omega) (by omega) (by omega) dL_law_2090 (adV ?_)
  refine g_room (k' := (322 * nf + 0)) (n' := (2566 * nf + 0)) (by omega) (by omega) ?_
  exact w_L_law_2093 nf N xs hN hxs hd K28 PK28 hK28 x5 ((f_L_borne (xs (x5 + (1 : Int32)).toNatClampNeg) v).1) (f_L_borne (xs (x5 + (1 : Int32)).toNatClampNeg) v).2 hp hQ
def f_L_law_2191 (N : Nat) (xs : Nat → Int32) (K28 : Int32 → gV → Int32 × gV)  (x5 : Int32) (v : gV) : Int32 × gV := f_L_law_3401 N xs K28 x5 v
def p_L_law_2191 (N : Nat) (xs : Nat → Int32) (K28 : Int32 → gV → Int32 × gV)  (PK28 : Int32 → gV → Prop)  (x5 : Int32) (v : gV) : Prop := p_L_law_3401 N xs K28 PK28 x5 v
set_option maxHeartbeats 4000000 in
set_option maxRecDepth 100000 in
theorem w_L_law_2191 {E : gE} {d : Nat} {Q : gO → gS → Prop} (nf : Nat) (N : Nat) (xs : Nat → Int32) (hN : gva E 201 = N) (hxs : gxs E = xs) (hd : 16 ≤ d) (K28 : Int32 → gV → Int32 × gV)  (PK28 : Int32 → gV → Prop)  (hK28 : ∀ (x5 : Int32) (v : gV), PK28 x5 v → gqIV Q (K28 x5 v) → gG E m_L_law d Q (322 * nf) (2566 * nf) (rS v) 28 [(0, .ref (gva E 200)), (1, .ref (gX E + 0)), (2, .ref (gX E + 559)), (3, .ref (gX E + 570)), (4, .ref (gX E + 571)), (5, .int x5)] [])  (x5 : Int32) (v : gV) (hp : p_L_law_2191 N xs K28 PK28 x5 v) (hQ : gqIV Q (f_L_law_2191 N xs K28 x5 v)) : gG E m_L_law d Q (322 * nf + 0) (2566 * nf + 0) (rS v) 2191 [(0, .ref (gva E 200)), (1, .ref (gX E + 0)), (2, .ref (gX E + 559)), (3, .ref (gX E + 570)), (4, .ref (gX E + 571)), (5, .int x5)] [] := by
  refine g_goto 3401 dL_law_2191 (by decide) ?_
  refine g_room (k' := (322 * nf + 0)) (n' := (2566 * nf + 0)) (by omega) (by omega) ?_
  exact w_L_law_3401 nf N xs hN hxs hd K28 PK28 hK28 x5 v hp hQ
def f_L_law_2161 (N : Nat) (xs : Nat → Int32) (K28 : Int32 → gV → Int32 × gV)  (x5 : Int32) (x6 : Int32) (s0 : Int32) (v : gV) : Int32 × gV := if (f_X12_thrown  v) = x6 then (if x6 = 0 then (if (lg_cmp (v.2.1 570 (0 : Int32).toNatClampNeg) s0.toInt64) = 0 then (f_L_law_2191 N xs K28 x5 v) else (((0 : Int32), v))) else (f_L_law_2191 N xs K28 x5 v)) else (((0 : Int32), v))
def p_L_law_2161 (N : Nat) (xs : Nat → Int32) (K28 : Int32 → gV → Int32 × gV)  (PK28 : Int32 → gV → Prop)  (x5 : Int32) (x6 : Int32) (s0 : Int32) (v : gV) : Prop := (p_X12_thrown  v) ∧ ((((f_X12_thrown  v) = x6) → (((x6 = 0) → ((((lg_cmp (v.2.1 570 (0 : Int32).toNatClampNeg) s0.toInt64) = 0) → (p_L_law_2191 N xs K28 PK28 x5 v)) ∧ (¬ ((lg_cmp (v.2.1 570 (0 : Int32).toNatClampNeg) s0.toInt64) = 0) → (True)))) ∧ (¬ (x6 = 0) → (p_L_law_2191 N xs K28 PK28 x5 v)))) ∧ (¬ ((f_X12_thrown  v) = x6) → (True)))
set_option maxHeartbeats 4000000 in
set_option maxRecDepth 100000 in
theorem w_L_law_2161 {E : gE} {d : Nat} {Q : gO → gS → Prop} (nf : Nat) (N : Nat) (xs : Nat → Int32) (hN : gva E 201 = N) (hxs : gxs E = xs) (hd : 16 ≤ d) (K28 : Int32 → gV → Int32 × gV)  (PK28 : Int32 → gV → Prop)  (hK28 : ∀ (x5 : Int32) (v : gV), PK28 x5 v → gqIV Q (K28 x5 v) → gG E m_L_law d Q (322 * nf) (2566 * nf) (rS v) 28 [(0, .ref (gva E 200)), (1, .ref (gX E + 0)), (2, .ref (gX E + 559)), (3, .ref (gX E + 570)), (4, .ref (gX E + 571)), (5, .int x5)] [])  (x5 : Int32) (x6 : Int32) (s0 : Int32) (v : gV) (hp : p_L_law_2161 N xs K28 PK28 x5 x6 s0 v) (hQ : gqIV Q (f_L_law_2161 N xs K28 x5 x6 s0 v)) : gG E m_L_law d Q (322 * nf + 0) (2566 * nf + 0) (rS v) 2161 [(0, .ref (gva E 200)), (1, .ref (gX E + 0)), (2, .ref (gX E + 559)), (3, .ref (gX E + 570)), (4, .ref (gX E + 571)), (5, .int x5), (6, .int x6)] [.int s0] := by
  refine g_istore [(7, .int s0), (0, .ref (gva E 200)), (1, .ref (gX E + 0)), (2, .ref (gX E + 559)), (3, .ref (gX E + 570)), (4, .ref (gX E + 571)), (5, .int x5), (6, .int x6)] dL_law_2161 (by decide) rfl ?_
  refine g_aload_n 3 dL_law_2163 rfl ?_
  obtain ⟨h312, hp⟩ := hp
  refine g_callV (rest := []) s_L_193_X12 rfl (c_X12_thrown (E := E) (d := d - 1)   (by omega)  v h312) (by decide : kd 559 = (0, 9)) (show 559 < 572 by decide) rfl rfl (Nat.le_of_ble_eq_true rfl) (by omega) (by omega) (by omega) dL_law_2164 (adV ?_) axN
  refine g_iload 7 dL_law_2167 rfl ?_
  refine g_icmp_eq 2174 dL_law_2169 (by decide) (fun h313 => ?_) (fun h313 => ?_)
  · have hQ := qp (P := gqIV Q) h313 hQ
    have hp := hp.1 h313
    refine g_iload 7 dL_law_2174 rfl ?_
    refine g_if_ne 2191 dL_law_2176 (by decide) (fun h314 => ?_) (fun h314 => ?_)
    · have hQ := qn (P := gqIV Q) h314 hQ
      have hp := hp.2 h314
      refine g_room (k' := (322 * nf + 0)) (n' := (2566 * nf + 0)) (by omega) (by omega) ?_
      refine g_lv (lv' := [(0, .ref (gva E 200)), (1, .ref (gX E + 0)), (2, .ref (gX E + 559)), (3, .ref (gX E + 570)), (4, .ref (gX E + 571)), (5, .int x5)]) [1, 2, 3, 4, 5, 6] rfl ?_
      exact w_L_law_2191 nf N xs hN hxs hd K28 PK28 hK28 x5 v hp hQ
    · have hQ := qp (P := gqIV Q) h314 hQ
      have hp := hp.1 h314
      refine g_aload_n 4 dL_law_2179 rfl ?_
      refine g_iconst dL_law_2180 (0 : Int32) (by decide) ?_
      refine g_lald (by decide : kd 570 = (3, 1)) (show 570 < 572 by decide) (show ¬ (_ ∨ _) by decide) dL_law_2181 ?_
      refine g_iload 0 dL_law_2182 rfl ?_
      refine g_i2l dL_law_2184 ?_
      refine g_lcmp dL_law_2185 ?_
      refine g_if_eq 2191 dL_law_2186 (by decide) (fun h315 => ?_) (fun h315 => ?_)
      · have hQ := qp (P := gqIV Q) h315 hQ
        have hp := hp.1 h315
        refine g_room (k' := (322 * nf + 0)) (n' := (2566 * nf + 0)) (by omega) (by omega) ?_
        refine g_lv (lv' := [(0, .ref (gva E 200)), (1, .ref (gX E + 0)), (2, .ref (gX E + 559)), (3, .ref (gX E + 570)), (4, .ref (gX E + 571)), (5, .int x5)]) [1, 2, 3, 4, 5, 6] rfl ?_
        exact w_L_law_2191 nf N xs hN hxs hd K28 PK28 hK28 x5 v hp hQ
      · have hQ := qn (P := gqIV Q) h315 hQ
        have hp := hp.2 h315
        refine g_iconst dL_law_2189 (0 : Int32) (by decide) ?_
        exact g_zret rfl rfl dL_law_2190 hQ
  · have hQ := qn (P := gqIV Q) h313 hQ
    have hp := hp.2 h313
    refine g_iconst dL_law_2172 (0 : Int32) (by decide) ?_
    exact g_zret rfl rfl dL_law_2173 hQ
def f_L_law_2149 (N : Nat) (xs : Nat → Int32) (K28 : Int32 → gV → Int32 × gV)  (x5 : Int32) (s0 : Int32) (v : gV) : Int32 × gV := f_L_law_2161 N xs K28 x5 s0 ((f_X12_borneByCoins (xs (x5 + (1 : Int32)).toNatClampNeg) v).1) (f_X12_borneByCoins (xs (x5 + (1 : Int32)).toNatClampNeg) v).2
def p_L_law_2149 (N : Nat) (xs : Nat → Int32) (K28 : Int32 → gV → Int32 × gV)  (PK28 : Int32 → gV → Prop)  (x5 : Int32) (s0 : Int32) (v : gV) : Prop := (vp_in (x5 + (1 : Int32)) N) ∧ ((p_X12_borneByCoins (xs (x5 + (1 : Int32)).toNatClampNeg) v) ∧ (p_L_law_2161 N xs K28 PK28 x5 s0 ((f_X12_borneByCoins (xs (x5 + (1 : Int32)).toNatClampNeg) v).1) (f_X12_borneByCoins (xs (x5 + (1 : Int32)).toNatClampNeg) v).2))
set_option maxHeartbeats 4000000 in
set_option maxRecDepth 100000 in
theorem w_L_law_2149 {E : gE} {d : Nat} {Q : gO → gS → Prop} (nf : Nat) (N : Nat) (xs : Nat → Int32) (hN : gva E 201 = N) (hxs : gxs E = xs) (hd : 16 ≤ d) (K28 : Int32 → gV → Int32 × gV)  (PK28 : Int32 → gV → Prop)  (hK28 : ∀ (x5 : Int32) (v : gV), PK28 x5 v → gqIV Q (K28 x5 v) → gG E m_L_law d Q (322 * nf) (2566 * nf) (rS v) 28 [(0, .ref (gva E 200)), (1, .ref (gX E + 0)), (2, .ref (gX E + 559)), (3, .ref (gX E + 570)), (4, .ref (gX E + 571)), (5, .int x5)] [])  (x5 : Int32) (s0 : Int32) (v : gV) (hp : p_L_law_2149 N xs K28 PK28 x5 s0 v) (hQ : gqIV Q (f_L_law_2149 N xs K28 x5 s0 v)) : gG E m_L_law d Q (322 * nf + 0) (2566 * nf + 0) (rS v) 2149 [(0, .ref (gva E 200)), (1, .ref (gX E + 0)), (2, .ref (gX E + 559)), (3, .ref (gX E + 570)), (4, .ref (gX E + 571)), (5, .int x5)] [.int s0] := by
  refine g_istore [(6, .int s0), (0, .ref (gva E 200)), (1, .ref (gX E + 0)), (2, .ref (gX E + 559)), (3, .ref (gX E + 570)), (4, .ref (gX E + 571)), (5, .int x5)] dL_law_2149 (by decide) rfl ?_
  refine g_aload_n 3 dL_law_2151 rfl ?_
  refine g_aload_n 1 dL_law_2152 rfl ?_
  refine g_iload 6 dL_law_2153 rfl ?_
  refine g_iconst dL_law_2155 (1 : Int32) (by decide) ?_
  refine g_iadd dL_law_2156 ?_
  obtain ⟨h310, hp⟩ := hp
  refine g_sld hN hxs h310 dL_law_2157 ?_
  obtain ⟨h311, hp⟩ := hp
  refine g_callV (rest := []) s_L_306_X12 rfl (c_X12_borneByCoins (E := E) (d := d - 1)   (by omega) (xs (x5 + (1 : Int32)).toNatClampNeg) v h311) (by decide : kd 559 = (0, 9)) (show 559 < 572 by decide) rfl rfl (Nat.le_of_ble_eq_true rfl) (by omega) (by omega) (by omega) dL_law_2158 (adV ?_) axN
  refine g_room (k' := (322 * nf + 0)) (n' := (2566 * nf + 0)) (by omega) (by omega) ?_
  refine g_lv (lv' := [(0, .ref (gva E 200)), (1, .ref (gX E + 0)), (2, .ref (gX E + 559)), (3, .ref (gX E + 570)), (4, .ref (gX E + 571)), (5, .int x5), (6, .int s0)]) [1, 2, 3, 4, 5, 6, 0] rfl ?_
  exact w_L_law_2161 nf N xs hN hxs hd K28 PK28 hK28 x5 s0 ((f_X12_borneByCoins (xs (x5 + (1 : Int32)).toNatClampNeg) v).1) (f_X12_borneByCoins (xs (x5 + (1 : Int32)).toNatClampNeg) v).2 hp hQ
def f_L_law_2138 (N : Nat) (xs : Nat → Int32) (K28 : Int32 → gV → Int32 × gV)  (x5 : Int32) (v : gV) : Int32 × gV := f_L_law_2149 N xs K28 x5 ((f_L_borneByCoins (xs (x5 + (1 : Int32)).toNatClampNeg) v).1) (f_L_borneByCoins (xs (x5 + (1 : Int32)).toNatClampNeg) v).2
def p_L_law_2138 (N : Nat) (xs : Nat → Int32) (K28 : Int32 → gV → Int32 × gV)  (PK28 : Int32 → gV → Prop)  (x5 : Int32) (v : gV) : Prop := (vp_in (x5 + (1 : Int32)) N) ∧ ((p_L_borneByCoins (xs (x5 + (1 : Int32)).toNatClampNeg) v) ∧ (p_L_law_2149 N xs K28 PK28 x5 ((f_L_borneByCoins (xs (x5 + (1 : Int32)).toNatClampNeg) v).1) (f_L_borneByCoins (xs (x5 + (1 : Int32)).toNatClampNeg) v).2))
set_option maxHeartbeats 4000000 in
set_option maxRecDepth 100000 in
theorem w_L_law_2138 {E : gE} {d : Nat} {Q : gO → gS → Prop} (nf : Nat) (N : Nat) (xs : Nat → Int32) (hN : gva E 201 = N) (hxs : gxs E = xs) (hd : 16 ≤ d) (K28 : Int32 → gV → Int32 × gV)  (PK28 : Int32 → gV → Prop)  (hK28 : ∀ (x5 : Int32) (v : gV), PK28 x5 v → gqIV Q (K28 x5 v) → gG E m_L_law d Q (322 * nf) (2566 * nf) (rS v) 28 [(0, .ref (gva E 200)), (1, .ref (gX E + 0)), (2, .ref (gX E + 559)), (3, .ref (gX E + 570)), (4, .ref (gX E + 571)), (5, .int x5)] [])  (x5 : Int32) (v : gV) (hp : p_L_law_2138 N xs K28 PK28 x5 v) (hQ : gqIV Q (f_L_law_2138 N xs K28 x5 v)) : gG E m_L_law d Q (322 * nf + 1) (2566 * nf + 6) (rS v) 2138 [(0, .ref (gva E 200)), (1, .ref (gX E + 0)), (2, .ref (gX E + 559)), (3, .ref (gX E + 570)), (4, .ref (gX E + 571)), (5, .int x5)] [] := by
  refine g_aload_n 1 dL_law_2138 rfl ?_
  refine g_aload_n 0 dL_law_2139 rfl ?_
  refine g_iload 5 dL_law_2140 rfl ?_
  refine g_iconst dL_law_2142 (1 : Int32) (by decide) ?_
  refine g_iadd dL_law_2143 ?_
  obtain ⟨h308, hp⟩ := hp
  refine g_sld hN hxs h308 dL_law_2144 ?_
  refine g_aload_n 3 dL_law_2145 rfl ?_
  obtain ⟨h309, hp⟩ := hp
  refine g_callT (rest := []) s_L_304 rfl (c_L_borneByCoins (E := E) (d := d - 1)   (by omega) (xs (x5 + (1 : Int32)).toNatClampNeg) v h309) cqn rfl rfl (Nat.le_of_ble_eq_true rfl) (by omega) (by omega) (by omega) dL_law_2146 (adV ?_)
  refine g_room (k' := (322 * nf + 0)) (n' := (2566 * nf + 0)) (by omega) (by omega) ?_
  exact w_L_law_2149 nf N xs hN hxs hd K28 PK28 hK28 x5 ((f_L_borneByCoins (xs (x5 + (1 : Int32)).toNatClampNeg) v).1) (f_L_borneByCoins (xs (x5 + (1 : Int32)).toNatClampNeg) v).2 hp hQ
def f_L_law_2202 (N : Nat) (xs : Nat → Int32) (K28 : Int32 → gV → Int32 × gV)  (x5 : Int32) (s0 : Int64) (s1 : Int64) (v : gV) : Int32 × gV := if (lg_cmp s1 s0) = 0 then (f_L_law_3401 N xs K28 x5 v) else (((0 : Int32), v))
def p_L_law_2202 (N : Nat) (xs : Nat → Int32) (K28 : Int32 → gV → Int32 × gV)  (PK28 : Int32 → gV → Prop)  (x5 : Int32) (s0 : Int64) (s1 : Int64) (v : gV) : Prop := (((lg_cmp s1 s0) = 0) → (p_L_law_3401 N xs K28 PK28 x5 v)) ∧ (¬ ((lg_cmp s1 s0) = 0) → (True))
set_option maxHeartbeats 4000000 in
set_option maxRecDepth 100000 in
theorem w_L_law_2202 {E : gE} {d : Nat} {Q : gO → gS → Prop} (nf : Nat) (N : Nat) (xs : Nat → Int32) (hN : gva E 201 = N) (hxs : gxs E = xs) (hd : 16 ≤ d) (K28 : Int32 → gV → Int32 × gV)  (PK28 : Int32 → gV → Prop)  (hK28 : ∀ (x5 : Int32) (v : gV), PK28 x5 v → gqIV Q (K28 x5 v) → gG E m_L_law d Q (322 * nf) (2566 * nf) (rS v) 28 [(0, .ref (gva E 200)), (1, .ref (gX E + 0)), (2, .ref (gX E + 559)), (3, .ref (gX E + 570)), (4, .ref (gX E + 571)), (5, .int x5)] [])  (x5 : Int32) (s0 : Int64) (s1 : Int64) (v : gV) (hp : p_L_law_2202 N xs K28 PK28 x5 s0 s1 v) (hQ : gqIV Q (f_L_law_2202 N xs K28 x5 s0 s1 v)) : gG E m_L_law d Q (322 * nf + 0) (2566 * nf + 0) (rS v) 2202 [(0, .ref (gva E 200)), (1, .ref (gX E + 0)), (2, .ref (gX E + 559)), (3, .ref (gX E + 570)), (4, .ref (gX E + 571)), (5, .int x5)] [.long s0, .long s1] := by
  refine g_lcmp dL_law_2202 ?_
  refine g_if_eq 3401 dL_law_2203 (by decide) (fun h319 => ?_) (fun h319 => ?_)
  · have hQ := qp (P := gqIV Q) h319 hQ
    have hp := hp.1 h319
    refine g_room (k' := (322 * nf + 0)) (n' := (2566 * nf + 0)) (by omega) (by omega) ?_
    exact w_L_law_3401 nf N xs hN hxs hd K28 PK28 hK28 x5 v hp hQ
  · have hQ := qn (P := gqIV Q) h319 hQ
    have hp := hp.2 h319
    refine g_iconst dL_law_2206 (0 : Int32) (by decide) ?_
    exact g_zret rfl rfl dL_law_2207 hQ
def f_L_law_2194 (N : Nat) (xs : Nat → Int32) (K28 : Int32 → gV → Int32 × gV)  (x5 : Int32) (v : gV) : Int32 × gV := f_L_law_2202 N xs K28 x5 ((f_X12_outcomes  v).1) (f_X11_outcomes  v) (f_X12_outcomes  v).2
def p_L_law_2194 (N : Nat) (xs : Nat → Int32) (K28 : Int32 → gV → Int32 × gV)  (PK28 : Int32 → gV → Prop)  (x5 : Int32) (v : gV) : Prop := (p_X11_outcomes  v) ∧ ((p_X12_outcomes  v) ∧ (p_L_law_2202 N xs K28 PK28 x5 ((f_X12_outcomes  v).1) (f_X11_outcomes  v) (f_X12_outcomes  v).2))
set_option maxHeartbeats 4000000 in
set_option maxRecDepth 100000 in
theorem w_L_law_2194 {E : gE} {d : Nat} {Q : gO → gS → Prop} (nf : Nat) (N : Nat) (xs : Nat → Int32) (hN : gva E 201 = N) (hxs : gxs E = xs) (hd : 16 ≤ d) (K28 : Int32 → gV → Int32 × gV)  (PK28 : Int32 → gV → Prop)  (hK28 : ∀ (x5 : Int32) (v : gV), PK28 x5 v → gqIV Q (K28 x5 v) → gG E m_L_law d Q (322 * nf) (2566 * nf) (rS v) 28 [(0, .ref (gva E 200)), (1, .ref (gX E + 0)), (2, .ref (gX E + 559)), (3, .ref (gX E + 570)), (4, .ref (gX E + 571)), (5, .int x5)] [])  (x5 : Int32) (v : gV) (hp : p_L_law_2194 N xs K28 PK28 x5 v) (hQ : gqIV Q (f_L_law_2194 N xs K28 x5 v)) : gG E m_L_law d Q (322 * nf + 0) (2566 * nf + 0) (rS v) 2194 [(0, .ref (gva E 200)), (1, .ref (gX E + 0)), (2, .ref (gX E + 559)), (3, .ref (gX E + 570)), (4, .ref (gX E + 571)), (5, .int x5)] [] := by
  refine g_aload_n 1 dL_law_2194 rfl ?_
  obtain ⟨h317, hp⟩ := hp
  refine g_callV (rest := []) s_L_307_X11 rfl (c_X11_outcomes (E := E) (d := d - 1)   (by omega)  v h317) (by decide : kd 0 = (0, 8)) (show 0 < 572 by decide) rfl rfl (Nat.le_of_ble_eq_true rfl) (by omega) (by omega) (by omega) dL_law_2195 (adV ?_) axN
  refine g_aload_n 2 dL_law_2198 rfl ?_
  obtain ⟨h318, hp⟩ := hp
  refine g_callV (rest := [.long ((f_X11_outcomes  v))]) s_L_311_X12 rfl (c_X12_outcomes (E := E) (d := d - 1)   (by omega)  v h318) (by decide : kd 559 = (0, 9)) (show 559 < 572 by decide) rfl rfl (Nat.le_of_ble_eq_true rfl) (by omega) (by omega) (by omega) dL_law_2199 (adV ?_) axN
  refine g_room (k' := (322 * nf + 0)) (n' := (2566 * nf + 0)) (by omega) (by omega) ?_
  exact w_L_law_2202 nf N xs hN hxs hd K28 PK28 hK28 x5 ((f_X12_outcomes  v).1) (f_X11_outcomes  v) (f_X12_outcomes  v).2 hp hQ
def f_L_law_2260 (N : Nat) (xs : Nat → Int32) (K28 : Int32 → gV → Int32 × gV)  (x5 : Int32) (v : gV) : Int32 × gV := f_L_law_3401 N xs K28 x5 v
def p_L_law_2260 (N : Nat) (xs : Nat → Int32) (K28 : Int32 → gV → Int32 × gV)  (PK28 : Int32 → gV → Prop)  (x5 : Int32) (v : gV) : Prop := p_L_law_3401 N xs K28 PK28 x5 v
set_option maxHeartbeats 4000000 in
set_option maxRecDepth 100000 in
theorem w_L_law_2260 {E : gE} {d : Nat} {Q : gO → gS → Prop} (nf : Nat) (N : Nat) (xs : Nat → Int32) (hN : gva E 201 = N) (hxs : gxs E = xs) (hd : 16 ≤ d) (K28 : Int32 → gV → Int32 × gV)  (PK28 : Int32 → gV → Prop)  (hK28 : ∀ (x5 : Int32) (v : gV), PK28 x5 v → gqIV Q (K28 x5 v) → gG E m_L_law d Q (322 * nf) (2566 * nf) (rS v) 28 [(0, .ref (gva E 200)), (1, .ref (gX E + 0)), (2, .ref (gX E + 559)), (3, .ref (gX E + 570)), (4, .ref (gX E + 571)), (5, .int x5)] [])  (x5 : Int32) (v : gV) (hp : p_L_law_2260 N xs K28 PK28 x5 v) (hQ : gqIV Q (f_L_law_2260 N xs K28 x5 v)) : gG E m_L_law d Q (322 * nf + 0) (2566 * nf + 0) (rS v) 2260 [(0, .ref (gva E 200)), (1, .ref (gX E + 0)), (2, .ref (gX E + 559)), (3, .ref (gX E + 570)), (4, .ref (gX E + 571)), (5, .int x5)] [] := by
  refine g_goto 3401 dL_law_2260 (by decide) ?_
  refine g_room (k' := (322 * nf + 0)) (n' := (2566 * nf + 0)) (by omega) (by omega) ?_
  exact w_L_law_3401 nf N xs hN hxs hd K28 PK28 hK28 x5 v hp hQ
def f_L_law_2231 (N : Nat) (xs : Nat → Int32) (K28 : Int32 → gV → Int32 × gV)  (x5 : Int32) (x6 : Int32) (s0 : Int64) (v : gV) : Int32 × gV := if (f_X12_thrown  v) = x6 then (if x6 = 0 then (if (lg_cmp (v.2.1 570 (0 : Int32).toNatClampNeg) s0) = 0 then (f_L_law_2260 N xs K28 x5 v) else (((0 : Int32), v))) else (f_L_law_2260 N xs K28 x5 v)) else (((0 : Int32), v))
def p_L_law_2231 (N : Nat) (xs : Nat → Int32) (K28 : Int32 → gV → Int32 × gV)  (PK28 : Int32 → gV → Prop)  (x5 : Int32) (x6 : Int32) (s0 : Int64) (v : gV) : Prop := (p_X12_thrown  v) ∧ ((((f_X12_thrown  v) = x6) → (((x6 = 0) → ((((lg_cmp (v.2.1 570 (0 : Int32).toNatClampNeg) s0) = 0) → (p_L_law_2260 N xs K28 PK28 x5 v)) ∧ (¬ ((lg_cmp (v.2.1 570 (0 : Int32).toNatClampNeg) s0) = 0) → (True)))) ∧ (¬ (x6 = 0) → (p_L_law_2260 N xs K28 PK28 x5 v)))) ∧ (¬ ((f_X12_thrown  v) = x6) → (True)))
set_option maxHeartbeats 4000000 in
set_option maxRecDepth 100000 in
theorem w_L_law_2231 {E : gE} {d : Nat} {Q : gO → gS → Prop} (nf : Nat) (N : Nat) (xs : Nat → Int32) (hN : gva E 201 = N) (hxs : gxs E = xs) (hd : 16 ≤ d) (K28 : Int32 → gV → Int32 × gV)  (PK28 : Int32 → gV → Prop)  (hK28 : ∀ (x5 : Int32) (v : gV), PK28 x5 v → gqIV Q (K28 x5 v) → gG E m_L_law d Q (322 * nf) (2566 * nf) (rS v) 28 [(0, .ref (gva E 200)), (1, .ref (gX E + 0)), (2, .ref (gX E + 559)), (3, .ref (gX E + 570)), (4, .ref (gX E + 571)), (5, .int x5)] [])  (x5 : Int32) (x6 : Int32) (s0 : Int64) (v : gV) (hp : p_L_law_2231 N xs K28 PK28 x5 x6 s0 v) (hQ : gqIV Q (f_L_law_2231 N xs K28 x5 x6 s0 v)) : gG E m_L_law d Q (322 * nf + 0) (2566 * nf + 0) (rS v) 2231 [(0, .ref (gva E 200)), (1, .ref (gX E + 0)), (2, .ref (gX E + 559)), (3, .ref (gX E + 570)), (4, .ref (gX E + 571)), (5, .int x5), (6, .int x6)] [.long s0] := by
  refine g_lstore [(7, .long s0), (0, .ref (gva E 200)), (1, .ref (gX E + 0)), (2, .ref (gX E + 559)), (3, .ref (gX E + 570)), (4, .ref (gX E + 571)), (5, .int x5), (6, .int x6)] dL_law_2231 (by decide) rfl ?_
  refine g_aload_n 3 dL_law_2233 rfl ?_
  obtain ⟨h325, hp⟩ := hp
  refine g_callV (rest := []) s_L_193_X12 rfl (c_X12_thrown (E := E) (d := d - 1)   (by omega)  v h325) (by decide : kd 559 = (0, 9)) (show 559 < 572 by decide) rfl rfl (Nat.le_of_ble_eq_true rfl) (by omega) (by omega) (by omega) dL_law_2234 (adV ?_) axN
  refine g_iload 7 dL_law_2237 rfl ?_
  refine g_icmp_eq 2244 dL_law_2239 (by decide) (fun h326 => ?_) (fun h326 => ?_)
  · have hQ := qp (P := gqIV Q) h326 hQ
    have hp := hp.1 h326
    refine g_iload 7 dL_law_2244 rfl ?_
    refine g_if_ne 2260 dL_law_2246 (by decide) (fun h327 => ?_) (fun h327 => ?_)
    · have hQ := qn (P := gqIV Q) h327 hQ
      have hp := hp.2 h327
      refine g_room (k' := (322 * nf + 0)) (n' := (2566 * nf + 0)) (by omega) (by omega) ?_
      refine g_lv (lv' := [(0, .ref (gva E 200)), (1, .ref (gX E + 0)), (2, .ref (gX E + 559)), (3, .ref (gX E + 570)), (4, .ref (gX E + 571)), (5, .int x5)]) [1, 2, 3, 4, 5, 6] rfl ?_
      exact w_L_law_2260 nf N xs hN hxs hd K28 PK28 hK28 x5 v hp hQ
    · have hQ := qp (P := gqIV Q) h327 hQ
      have hp := hp.1 h327
      refine g_aload_n 4 dL_law_2249 rfl ?_
      refine g_iconst dL_law_2250 (0 : Int32) (by decide) ?_
      refine g_lald (by decide : kd 570 = (3, 1)) (show 570 < 572 by decide) (show ¬ (_ ∨ _) by decide) dL_law_2251 ?_
      refine g_lload 0 dL_law_2252 rfl ?_
      refine g_lcmp dL_law_2254 ?_
      refine g_if_eq 2260 dL_law_2255 (by decide) (fun h328 => ?_) (fun h328 => ?_)
      · have hQ := qp (P := gqIV Q) h328 hQ
        have hp := hp.1 h328
        refine g_room (k' := (322 * nf + 0)) (n' := (2566 * nf + 0)) (by omega) (by omega) ?_
        refine g_lv (lv' := [(0, .ref (gva E 200)), (1, .ref (gX E + 0)), (2, .ref (gX E + 559)), (3, .ref (gX E + 570)), (4, .ref (gX E + 571)), (5, .int x5)]) [1, 2, 3, 4, 5, 6] rfl ?_
        exact w_L_law_2260 nf N xs hN hxs hd K28 PK28 hK28 x5 v hp hQ
      · have hQ := qn (P := gqIV Q) h328 hQ
        have hp := hp.2 h328
        refine g_iconst dL_law_2258 (0 : Int32) (by decide) ?_
        exact g_zret rfl rfl dL_law_2259 hQ
  · have hQ := qn (P := gqIV Q) h326 hQ
    have hp := hp.2 h326
    refine g_iconst dL_law_2242 (0 : Int32) (by decide) ?_
    exact g_zret rfl rfl dL_law_2243 hQ
def f_L_law_2219 (N : Nat) (xs : Nat → Int32) (K28 : Int32 → gV → Int32 × gV)  (x5 : Int32) (s0 : Int32) (v : gV) : Int32 × gV := f_L_law_2231 N xs K28 x5 s0 ((f_X12_outcomesWithin (xs (x5 + (1 : Int32)).toNatClampNeg) v).1) (f_X12_outcomesWithin (xs (x5 + (1 : Int32)).toNatClampNeg) v).2
def p_L_law_2219 (N : Nat) (xs : Nat → Int32) (K28 : Int32 → gV → Int32 × gV)  (PK28 : Int32 → gV → Prop)  (x5 : Int32) (s0 : Int32) (v : gV) : Prop := (vp_in (x5 + (1 : Int32)) N) ∧ ((p_X12_outcomesWithin (xs (x5 + (1 : Int32)).toNatClampNeg) v) ∧ (p_L_law_2231 N xs K28 PK28 x5 s0 ((f_X12_outcomesWithin (xs (x5 + (1 : Int32)).toNatClampNeg) v).1) (f_X12_outcomesWithin (xs (x5 + (1 : Int32)).toNatClampNeg) v).2))
set_option maxHeartbeats 4000000 in
set_option maxRecDepth 100000 in
theorem w_L_law_2219 {E : gE} {d : Nat} {Q : gO → gS → Prop} (nf : Nat) (N : Nat) (xs : Nat → Int32) (hN : gva E 201 = N) (hxs : gxs E = xs) (hd : 16 ≤ d) (K28 : Int32 → gV → Int32 × gV)  (PK28 : Int32 → gV → Prop)  (hK28 : ∀ (x5 : Int32) (v : gV), PK28 x5 v → gqIV Q (K28 x5 v) → gG E m_L_law d Q (322 * nf) (2566 * nf) (rS v) 28 [(0, .ref (gva E 200)), (1, .ref (gX E + 0)), (2, .ref (gX E + 559)), (3, .ref (gX E + 570)), (4, .ref (gX E + 571)), (5, .int x5)] [])  (x5 : Int32) (s0 : Int32) (v : gV) (hp : p_L_law_2219 N xs K28 PK28 x5 s0 v) (hQ : gqIV Q (f_L_law_2219 N xs K28 x5 s0 v)) : gG E m_L_law d Q (322 * nf + 0) (2566 * nf + 0) (rS v) 2219 [(0, .ref (gva E 200)), (1, .ref (gX E + 0)), (2, .ref (gX E + 559)), (3, .ref (gX E + 570)), (4, .ref (gX E + 571)), (5, .int x5)] [.int s0] := by
  refine g_istore [(6, .int s0), (0, .ref (gva E 200)), (1, .ref (gX E + 0)), (2, .ref (gX E + 559)), (3, .ref (gX E + 570)), (4, .ref (gX E + 571)), (5, .int x5)] dL_law_2219 (by decide) rfl ?_
  refine g_aload_n 3 dL_law_2221 rfl ?_
  refine g_aload_n 1 dL_law_2222 rfl ?_
  refine g_iload 6 dL_law_2223 rfl ?_
  refine g_iconst dL_law_2225 (1 : Int32) (by decide) ?_
  refine g_iadd dL_law_2226 ?_
  obtain ⟨h323, hp⟩ := hp
  refine g_sld hN hxs h323 dL_law_2227 ?_
  obtain ⟨h324, hp⟩ := hp
  refine g_callV (rest := []) s_L_314_X12 rfl (c_X12_outcomesWithin (E := E) (d := d - 1)   (by omega) (xs (x5 + (1 : Int32)).toNatClampNeg) v h324) (by decide : kd 559 = (0, 9)) (show 559 < 572 by decide) rfl rfl (Nat.le_of_ble_eq_true rfl) (by omega) (by omega) (by omega) dL_law_2228 (adV ?_) axN
  refine g_room (k' := (322 * nf + 0)) (n' := (2566 * nf + 0)) (by omega) (by omega) ?_
  refine g_lv (lv' := [(0, .ref (gva E 200)), (1, .ref (gX E + 0)), (2, .ref (gX E + 559)), (3, .ref (gX E + 570)), (4, .ref (gX E + 571)), (5, .int x5), (6, .int s0)]) [1, 2, 3, 4, 5, 6, 0] rfl ?_
  exact w_L_law_2231 nf N xs hN hxs hd K28 PK28 hK28 x5 s0 ((f_X12_outcomesWithin (xs (x5 + (1 : Int32)).toNatClampNeg) v).1) (f_X12_outcomesWithin (xs (x5 + (1 : Int32)).toNatClampNeg) v).2 hp hQ
def f_L_law_2208 (N : Nat) (xs : Nat → Int32) (K28 : Int32 → gV → Int32 × gV)  (x5 : Int32) (v : gV) : Int32 × gV := f_L_law_2219 N xs K28 x5 ((f_L_outcomesWithin (xs (x5 + (1 : Int32)).toNatClampNeg) v).1) (f_L_outcomesWithin (xs (x5 + (1 : Int32)).toNatClampNeg) v).2
def p_L_law_2208 (N : Nat) (xs : Nat → Int32) (K28 : Int32 → gV → Int32 × gV)  (PK28 : Int32 → gV → Prop)  (x5 : Int32) (v : gV) : Prop := (vp_in (x5 + (1 : Int32)) N) ∧ ((p_L_outcomesWithin (xs (x5 + (1 : Int32)).toNatClampNeg) v) ∧ (p_L_law_2219 N xs K28 PK28 x5 ((f_L_outcomesWithin (xs (x5 + (1 : Int32)).toNatClampNeg) v).1) (f_L_outcomesWithin (xs (x5 + (1 : Int32)).toNatClampNeg) v).2))
set_option maxHeartbeats 4000000 in
set_option maxRecDepth 100000 in
theorem w_L_law_2208 {E : gE} {d : Nat} {Q : gO → gS → Prop} (nf : Nat) (N : Nat) (xs : Nat → Int32) (hN : gva E 201 = N) (hxs : gxs E = xs) (hd : 16 ≤ d) (K28 : Int32 → gV → Int32 × gV)  (PK28 : Int32 → gV → Prop)  (hK28 : ∀ (x5 : Int32) (v : gV), PK28 x5 v → gqIV Q (K28 x5 v) → gG E m_L_law d Q (322 * nf) (2566 * nf) (rS v) 28 [(0, .ref (gva E 200)), (1, .ref (gX E + 0)), (2, .ref (gX E + 559)), (3, .ref (gX E + 570)), (4, .ref (gX E + 571)), (5, .int x5)] [])  (x5 : Int32) (v : gV) (hp : p_L_law_2208 N xs K28 PK28 x5 v) (hQ : gqIV Q (f_L_law_2208 N xs K28 x5 v)) : gG E m_L_law d Q (322 * nf + 1) (2566 * nf + 6) (rS v) 2208 [(0, .ref (gva E 200)), (1, .ref (gX E + 0)), (2, .ref (gX E + 559)), (3, .ref (gX E + 570)), (4, .ref (gX E + 571)), (5, .int x5)] [] := by
  refine g_aload_n 1 dL_law_2208 rfl ?_
  refine g_aload_n 0 dL_law_2209 rfl ?_
  refine g_iload 5 dL_law_2210 rfl ?_
  refine g_iconst dL_law_2212 (1 : Int32) (by decide) ?_
  refine g_iadd dL_law_2213 ?_
  obtain ⟨h321, hp⟩ := hp
  refine g_sld hN hxs h321 dL_law_2214 ?_
  refine g_aload_n 3 dL_law_2215 rfl ?_
  obtain ⟨h322, hp⟩ := hp
  refine g_callT (rest := []) s_L_312 rfl (c_L_outcomesWithin (E := E) (d := d - 1)   (by omega) (xs (x5 + (1 : Int32)).toNatClampNeg) v h322) cqn rfl rfl (Nat.le_of_ble_eq_true rfl) (by omega) (by omega) (by omega) dL_law_2216 (adV ?_)
  refine g_room (k' := (322 * nf + 0)) (n' := (2566 * nf + 0)) (by omega) (by omega) ?_
  exact w_L_law_2219 nf N xs hN hxs hd K28 PK28 hK28 x5 ((f_L_outcomesWithin (xs (x5 + (1 : Int32)).toNatClampNeg) v).1) (f_L_outcomesWithin (xs (x5 + (1 : Int32)).toNatClampNeg) v).2 hp hQ
def f_L_law_2315 (N : Nat) (xs : Nat → Int32) (K28 : Int32 → gV → Int32 × gV)  (x5 : Int32) (v : gV) : Int32 × gV := f_L_law_3401 N xs K28 x5 v
def p_L_law_2315 (N : Nat) (xs : Nat → Int32) (K28 : Int32 → gV → Int32 × gV)  (PK28 : Int32 → gV → Prop)  (x5 : Int32) (v : gV) : Prop := p_L_law_3401 N xs K28 PK28 x5 v
set_option maxHeartbeats 4000000 in
set_option maxRecDepth 100000 in
theorem w_L_law_2315 {E : gE} {d : Nat} {Q : gO → gS → Prop} (nf : Nat) (N : Nat) (xs : Nat → Int32) (hN : gva E 201 = N) (hxs : gxs E = xs) (hd : 16 ≤ d) (K28 : Int32 → gV → Int32 × gV)  (PK28 : Int32 → gV → Prop)  (hK28 : ∀ (x5 : Int32) (v : gV), PK28 x5 v → gqIV Q (K28 x5 v) → gG E m_L_law d Q (322 * nf) (2566 * nf) (rS v) 28 [(0, .ref (gva E 200)), (1, .ref (gX E + 0)), (2, .ref (gX E + 559)), (3, .ref (gX E + 570)), (4, .ref (gX E + 571)), (5, .int x5)] [])  (x5 : Int32) (v : gV) (hp : p_L_law_2315 N xs K28 PK28 x5 v) (hQ : gqIV Q (f_L_law_2315 N xs K28 x5 v)) : gG E m_L_law d Q (322 * nf + 0) (2566 * nf + 0) (rS v) 2315 [(0, .ref (gva E 200)), (1, .ref (gX E + 0)), (2, .ref (gX E + 559)), (3, .ref (gX E + 570)), (4, .ref (gX E + 571)), (5, .int x5)] [] := by
  refine g_goto 3401 dL_law_2315 (by decide) ?_
  refine g_room (k' := (322 * nf + 0)) (n' := (2566 * nf + 0)) (by omega) (by omega) ?_
  exact w_L_law_3401 nf N xs hN hxs hd K28 PK28 hK28 x5 v hp hQ
def f_L_law_2286 (N : Nat) (xs : Nat → Int32) (K28 : Int32 → gV → Int32 × gV)  (x5 : Int32) (x6 : Int32) (s0 : Int64) (v : gV) : Int32 × gV := if (f_X12_thrown  v) = x6 then (if x6 = 0 then (if (lg_cmp (v.2.1 570 (0 : Int32).toNatClampNeg) s0) = 0 then (f_L_law_2315 N xs K28 x5 v) else (((0 : Int32), v))) else (f_L_law_2315 N xs K28 x5 v)) else (((0 : Int32), v))
def p_L_law_2286 (N : Nat) (xs : Nat → Int32) (K28 : Int32 → gV → Int32 × gV)  (PK28 : Int32 → gV → Prop)  (x5 : Int32) (x6 : Int32) (s0 : Int64) (v : gV) : Prop := (p_X12_thrown  v) ∧ ((((f_X12_thrown  v) = x6) → (((x6 = 0) → ((((lg_cmp (v.2.1 570 (0 : Int32).toNatClampNeg) s0) = 0) → (p_L_law_2315 N xs K28 PK28 x5 v)) ∧ (¬ ((lg_cmp (v.2.1 570 (0 : Int32).toNatClampNeg) s0) = 0) → (True)))) ∧ (¬ (x6 = 0) → (p_L_law_2315 N xs K28 PK28 x5 v)))) ∧ (¬ ((f_X12_thrown  v) = x6) → (True)))
set_option maxHeartbeats 4000000 in
set_option maxRecDepth 100000 in
theorem w_L_law_2286 {E : gE} {d : Nat} {Q : gO → gS → Prop} (nf : Nat) (N : Nat) (xs : Nat → Int32) (hN : gva E 201 = N) (hxs : gxs E = xs) (hd : 16 ≤ d) (K28 : Int32 → gV → Int32 × gV)  (PK28 : Int32 → gV → Prop)  (hK28 : ∀ (x5 : Int32) (v : gV), PK28 x5 v → gqIV Q (K28 x5 v) → gG E m_L_law d Q (322 * nf) (2566 * nf) (rS v) 28 [(0, .ref (gva E 200)), (1, .ref (gX E + 0)), (2, .ref (gX E + 559)), (3, .ref (gX E + 570)), (4, .ref (gX E + 571)), (5, .int x5)] [])  (x5 : Int32) (x6 : Int32) (s0 : Int64) (v : gV) (hp : p_L_law_2286 N xs K28 PK28 x5 x6 s0 v) (hQ : gqIV Q (f_L_law_2286 N xs K28 x5 x6 s0 v)) : gG E m_L_law d Q (322 * nf + 0) (2566 * nf + 0) (rS v) 2286 [(0, .ref (gva E 200)), (1, .ref (gX E + 0)), (2, .ref (gX E + 559)), (3, .ref (gX E + 570)), (4, .ref (gX E + 571)), (5, .int x5), (6, .int x6)] [.long s0] := by
  refine g_lstore [(7, .long s0), (0, .ref (gva E 200)), (1, .ref (gX E + 0)), (2, .ref (gX E + 559)), (3, .ref (gX E + 570)), (4, .ref (gX E + 571)), (5, .int x5), (6, .int x6)] dL_law_2286 (by decide) rfl ?_
  refine g_aload_n 3 dL_law_2288 rfl ?_
  obtain ⟨h334, hp⟩ := hp
  refine g_callV (rest := []) s_L_193_X12 rfl (c_X12_thrown (E := E) (d := d - 1)   (by omega)  v h334) (by decide : kd 559 = (0, 9)) (show 559 < 572 by decide) rfl rfl (Nat.le_of_ble_eq_true rfl) (by omega) (by omega) (by omega) dL_law_2289 (adV ?_) axN
  refine g_iload 7 dL_law_2292 rfl ?_
  refine g_icmp_eq 2299 dL_law_2294 (by decide) (fun h335 => ?_) (fun h335 => ?_)
  · have hQ := qp (P := gqIV Q) h335 hQ
    have hp := hp.1 h335
    refine g_iload 7 dL_law_2299 rfl ?_
    refine g_if_ne 2315 dL_law_2301 (by decide) (fun h336 => ?_) (fun h336 => ?_)
    · have hQ := qn (P := gqIV Q) h336 hQ
      have hp := hp.2 h336
      refine g_room (k' := (322 * nf + 0)) (n' := (2566 * nf + 0)) (by omega) (by omega) ?_
      refine g_lv (lv' := [(0, .ref (gva E 200)), (1, .ref (gX E + 0)), (2, .ref (gX E + 559)), (3, .ref (gX E + 570)), (4, .ref (gX E + 571)), (5, .int x5)]) [1, 2, 3, 4, 5, 6] rfl ?_
      exact w_L_law_2315 nf N xs hN hxs hd K28 PK28 hK28 x5 v hp hQ
    · have hQ := qp (P := gqIV Q) h336 hQ
      have hp := hp.1 h336
      refine g_aload_n 4 dL_law_2304 rfl ?_
      refine g_iconst dL_law_2305 (0 : Int32) (by decide) ?_
      refine g_lald (by decide : kd 570 = (3, 1)) (show 570 < 572 by decide) (show ¬ (_ ∨ _) by decide) dL_law_2306 ?_
      refine g_lload 0 dL_law_2307 rfl ?_
      refine g_lcmp dL_law_2309 ?_
      refine g_if_eq 2315 dL_law_2310 (by decide) (fun h337 => ?_) (fun h337 => ?_)
      · have hQ := qp (P := gqIV Q) h337 hQ
        have hp := hp.1 h337
        refine g_room (k' := (322 * nf + 0)) (n' := (2566 * nf + 0)) (by omega) (by omega) ?_
        refine g_lv (lv' := [(0, .ref (gva E 200)), (1, .ref (gX E + 0)), (2, .ref (gX E + 559)), (3, .ref (gX E + 570)), (4, .ref (gX E + 571)), (5, .int x5)]) [1, 2, 3, 4, 5, 6] rfl ?_
        exact w_L_law_2315 nf N xs hN hxs hd K28 PK28 hK28 x5 v hp hQ
      · have hQ := qn (P := gqIV Q) h337 hQ
        have hp := hp.2 h337
        refine g_iconst dL_law_2313 (0 : Int32) (by decide) ?_
        exact g_zret rfl rfl dL_law_2314 hQ
  · have hQ := qn (P := gqIV Q) h335 hQ
    have hp := hp.2 h335
    refine g_iconst dL_law_2297 (0 : Int32) (by decide) ?_
    exact g_zret rfl rfl dL_law_2298 hQ
def f_L_law_2274 (N : Nat) (xs : Nat → Int32) (K28 : Int32 → gV → Int32 × gV)  (x5 : Int32) (s0 : Int32) (v : gV) : Int32 × gV := f_L_law_2286 N xs K28 x5 s0 ((f_X12_outcomesWithinBySets (xs (x5 + (1 : Int32)).toNatClampNeg) v).1) (f_X12_outcomesWithinBySets (xs (x5 + (1 : Int32)).toNatClampNeg) v).2
def p_L_law_2274 (N : Nat) (xs : Nat → Int32) (K28 : Int32 → gV → Int32 × gV)  (PK28 : Int32 → gV → Prop)  (x5 : Int32) (s0 : Int32) (v : gV) : Prop := (vp_in (x5 + (1 : Int32)) N) ∧ ((p_X12_outcomesWithinBySets (xs (x5 + (1 : Int32)).toNatClampNeg) v) ∧ (p_L_law_2286 N xs K28 PK28 x5 s0 ((f_X12_outcomesWithinBySets (xs (x5 + (1 : Int32)).toNatClampNeg) v).1) (f_X12_outcomesWithinBySets (xs (x5 + (1 : Int32)).toNatClampNeg) v).2))
set_option maxHeartbeats 4000000 in
set_option maxRecDepth 100000 in
theorem w_L_law_2274 {E : gE} {d : Nat} {Q : gO → gS → Prop} (nf : Nat) (N : Nat) (xs : Nat → Int32) (hN : gva E 201 = N) (hxs : gxs E = xs) (hd : 16 ≤ d) (K28 : Int32 → gV → Int32 × gV)  (PK28 : Int32 → gV → Prop)  (hK28 : ∀ (x5 : Int32) (v : gV), PK28 x5 v → gqIV Q (K28 x5 v) → gG E m_L_law d Q (322 * nf) (2566 * nf) (rS v) 28 [(0, .ref (gva E 200)), (1, .ref (gX E + 0)), (2, .ref (gX E + 559)), (3, .ref (gX E + 570)), (4, .ref (gX E + 571)), (5, .int x5)] [])  (x5 : Int32) (s0 : Int32) (v : gV) (hp : p_L_law_2274 N xs K28 PK28 x5 s0 v) (hQ : gqIV Q (f_L_law_2274 N xs K28 x5 s0 v)) : gG E m_L_law d Q (322 * nf + 0) (2566 * nf + 0) (rS v) 2274 [(0, .ref (gva E 200)), (1, .ref (gX E + 0)), (2, .ref (gX E + 559)), (3, .ref (gX E + 570)), (4, .ref (gX E + 571)), (5, .int x5)] [.int s0] := by
  refine g_istore [(6, .int s0), (0, .ref (gva E 200)), (1, .ref (gX E + 0)), (2, .ref (gX E + 559)), (3, .ref (gX E + 570)), (4, .ref (gX E + 571)), (5, .int x5)] dL_law_2274 (by decide) rfl ?_
  refine g_aload_n 3 dL_law_2276 rfl ?_
  refine g_aload_n 1 dL_law_2277 rfl ?_
  refine g_iload 6 dL_law_2278 rfl ?_
  refine g_iconst dL_law_2280 (1 : Int32) (by decide) ?_
  refine g_iadd dL_law_2281 ?_
  obtain ⟨h332, hp⟩ := hp
  refine g_sld hN hxs h332 dL_law_2282 ?_
  obtain ⟨h333, hp⟩ := hp
  refine g_callV (rest := []) s_L_317_X12 rfl (c_X12_outcomesWithinBySets (E := E) (d := d - 1)   (by omega) (xs (x5 + (1 : Int32)).toNatClampNeg) v h333) (by decide : kd 559 = (0, 9)) (show 559 < 572 by decide) rfl rfl (Nat.le_of_ble_eq_true rfl) (by omega) (by omega) (by omega) dL_law_2283 (adV ?_) axN
  refine g_room (k' := (322 * nf + 0)) (n' := (2566 * nf + 0)) (by omega) (by omega) ?_
  refine g_lv (lv' := [(0, .ref (gva E 200)), (1, .ref (gX E + 0)), (2, .ref (gX E + 559)), (3, .ref (gX E + 570)), (4, .ref (gX E + 571)), (5, .int x5), (6, .int s0)]) [1, 2, 3, 4, 5, 6, 0] rfl ?_
  exact w_L_law_2286 nf N xs hN hxs hd K28 PK28 hK28 x5 s0 ((f_X12_outcomesWithinBySets (xs (x5 + (1 : Int32)).toNatClampNeg) v).1) (f_X12_outcomesWithinBySets (xs (x5 + (1 : Int32)).toNatClampNeg) v).2 hp hQ
def f_L_law_2263 (N : Nat) (xs : Nat → Int32) (K28 : Int32 → gV → Int32 × gV)  (x5 : Int32) (v : gV) : Int32 × gV := f_L_law_2274 N xs K28 x5 ((f_L_outcomesWithinBySets (xs (x5 + (1 : Int32)).toNatClampNeg) v).1) (f_L_outcomesWithinBySets (xs (x5 + (1 : Int32)).toNatClampNeg) v).2
def p_L_law_2263 (N : Nat) (xs : Nat → Int32) (K28 : Int32 → gV → Int32 × gV)  (PK28 : Int32 → gV → Prop)  (x5 : Int32) (v : gV) : Prop := (vp_in (x5 + (1 : Int32)) N) ∧ ((p_L_outcomesWithinBySets (xs (x5 + (1 : Int32)).toNatClampNeg) v) ∧ (p_L_law_2274 N xs K28 PK28 x5 ((f_L_outcomesWithinBySets (xs (x5 + (1 : Int32)).toNatClampNeg) v).1) (f_L_outcomesWithinBySets (xs (x5 + (1 : Int32)).toNatClampNeg) v).2))
set_option maxHeartbeats 4000000 in
set_option maxRecDepth 100000 in
theorem w_L_law_2263 {E : gE} {d : Nat} {Q : gO → gS → Prop} (nf : Nat) (N : Nat) (xs : Nat → Int32) (hN : gva E 201 = N) (hxs : gxs E = xs) (hd : 16 ≤ d) (K28 : Int32 → gV → Int32 × gV)  (PK28 : Int32 → gV → Prop)  (hK28 : ∀ (x5 : Int32) (v : gV), PK28 x5 v → gqIV Q (K28 x5 v) → gG E m_L_law d Q (322 * nf) (2566 * nf) (rS v) 28 [(0, .ref (gva E 200)), (1, .ref (gX E + 0)), (2, .ref (gX E + 559)), (3, .ref (gX E + 570)), (4, .ref (gX E + 571)), (5, .int x5)] [])  (x5 : Int32) (v : gV) (hp : p_L_law_2263 N xs K28 PK28 x5 v) (hQ : gqIV Q (f_L_law_2263 N xs K28 x5 v)) : gG E m_L_law d Q (322 * nf + 1) (2566 * nf + 6) (rS v) 2263 [(0, .ref (gva E 200)), (1, .ref (gX E + 0)), (2, .ref (gX E + 559)), (3, .ref (gX E + 570)), (4, .ref (gX E + 571)), (5, .int x5)] [] := by
  refine g_aload_n 1 dL_law_2263 rfl ?_
  refine g_aload_n 0 dL_law_2264 rfl ?_
  refine g_iload 5 dL_law_2265 rfl ?_
  refine g_iconst dL_law_2267 (1 : Int32) (by decide) ?_
  refine g_iadd dL_law_2268 ?_
  obtain ⟨h330, hp⟩ := hp
  refine g_sld hN hxs h330 dL_law_2269 ?_
  refine g_aload_n 3 dL_law_2270 rfl ?_
  obtain ⟨h331, hp⟩ := hp
  refine g_callT (rest := []) s_L_315 rfl (c_L_outcomesWithinBySets (E := E) (d := d - 1)   (by omega) (xs (x5 + (1 : Int32)).toNatClampNeg) v h331) cqn rfl rfl (Nat.le_of_ble_eq_true rfl) (by omega) (by omega) (by omega) dL_law_2271 (adV ?_)
  refine g_room (k' := (322 * nf + 0)) (n' := (2566 * nf + 0)) (by omega) (by omega) ?_
  exact w_L_law_2274 nf N xs hN hxs hd K28 PK28 hK28 x5 ((f_L_outcomesWithinBySets (xs (x5 + (1 : Int32)).toNatClampNeg) v).1) (f_L_outcomesWithinBySets (xs (x5 + (1 : Int32)).toNatClampNeg) v).2 hp hQ
def f_L_law_2326 (N : Nat) (xs : Nat → Int32) (K28 : Int32 → gV → Int32 × gV)  (x5 : Int32) (s0 : Int32) (s1 : Int32) (v : gV) : Int32 × gV := if s1 = s0 then (f_L_law_3401 N xs K28 x5 v) else (((0 : Int32), v))
def p_L_law_2326 (N : Nat) (xs : Nat → Int32) (K28 : Int32 → gV → Int32 × gV)  (PK28 : Int32 → gV → Prop)  (x5 : Int32) (s0 : Int32) (s1 : Int32) (v : gV) : Prop := ((s1 = s0) → (p_L_law_3401 N xs K28 PK28 x5 v)) ∧ (¬ (s1 = s0) → (True))
set_option maxHeartbeats 4000000 in
set_option maxRecDepth 100000 in
theorem w_L_law_2326 {E : gE} {d : Nat} {Q : gO → gS → Prop} (nf : Nat) (N : Nat) (xs : Nat → Int32) (hN : gva E 201 = N) (hxs : gxs E = xs) (hd : 16 ≤ d) (K28 : Int32 → gV → Int32 × gV)  (PK28 : Int32 → gV → Prop)  (hK28 : ∀ (x5 : Int32) (v : gV), PK28 x5 v → gqIV Q (K28 x5 v) → gG E m_L_law d Q (322 * nf) (2566 * nf) (rS v) 28 [(0, .ref (gva E 200)), (1, .ref (gX E + 0)), (2, .ref (gX E + 559)), (3, .ref (gX E + 570)), (4, .ref (gX E + 571)), (5, .int x5)] [])  (x5 : Int32) (s0 : Int32) (s1 : Int32) (v : gV) (hp : p_L_law_2326 N xs K28 PK28 x5 s0 s1 v) (hQ : gqIV Q (f_L_law_2326 N xs K28 x5 s0 s1 v)) : gG E m_L_law d Q (322 * nf + 0) (2566 * nf + 0) (rS v) 2326 [(0, .ref (gva E 200)), (1, .ref (gX E + 0)), (2, .ref (gX E + 559)), (3, .ref (gX E + 570)), (4, .ref (gX E + 571)), (5, .int x5)] [.int s0, .int s1] := by
  refine g_icmp_eq 3401 dL_law_2326 (by decide) (fun h341 => ?_) (fun h341 => ?_)
  · have hQ := qp (P := gqIV Q) h341 hQ
    have hp := hp.1 h341
    refine g_room (k' := (322 * nf + 0)) (n' := (2566 * nf + 0)) (by omega) (by omega) ?_
    exact w_L_law_3401 nf N xs hN hxs hd K28 PK28 hK28 x5 v hp hQ
  · have hQ := qn (P := gqIV Q) h341 hQ
    have hp := hp.2 h341
    refine g_iconst dL_law_2329 (0 : Int32) (by decide) ?_
    exact g_zret rfl rfl dL_law_2330 hQ
def f_L_law_2318 (N : Nat) (xs : Nat → Int32) (K28 : Int32 → gV → Int32 × gV)  (x5 : Int32) (v : gV) : Int32 × gV := f_L_law_2326 N xs K28 x5 ((f_X12_greatestLoss  v).1) (f_X11_greatestLoss  v) (f_X12_greatestLoss  v).2
def p_L_law_2318 (N : Nat) (xs : Nat → Int32) (K28 : Int32 → gV → Int32 × gV)  (PK28 : Int32 → gV → Prop)  (x5 : Int32) (v : gV) : Prop := (p_X11_greatestLoss  v) ∧ ((p_X12_greatestLoss  v) ∧ (p_L_law_2326 N xs K28 PK28 x5 ((f_X12_greatestLoss  v).1) (f_X11_greatestLoss  v) (f_X12_greatestLoss  v).2))
set_option maxHeartbeats 4000000 in
set_option maxRecDepth 100000 in
theorem w_L_law_2318 {E : gE} {d : Nat} {Q : gO → gS → Prop} (nf : Nat) (N : Nat) (xs : Nat → Int32) (hN : gva E 201 = N) (hxs : gxs E = xs) (hd : 16 ≤ d) (K28 : Int32 → gV → Int32 × gV)  (PK28 : Int32 → gV → Prop)  (hK28 : ∀ (x5 : Int32) (v : gV), PK28 x5 v → gqIV Q (K28 x5 v) → gG E m_L_law d Q (322 * nf) (2566 * nf) (rS v) 28 [(0, .ref (gva E 200)), (1, .ref (gX E + 0)), (2, .ref (gX E + 559)), (3, .ref (gX E + 570)), (4, .ref (gX E + 571)), (5, .int x5)] [])  (x5 : Int32) (v : gV) (hp : p_L_law_2318 N xs K28 PK28 x5 v) (hQ : gqIV Q (f_L_law_2318 N xs K28 x5 v)) : gG E m_L_law d Q (322 * nf + 0) (2566 * nf + 0) (rS v) 2318 [(0, .ref (gva E 200)), (1, .ref (gX E + 0)), (2, .ref (gX E + 559)), (3, .ref (gX E + 570)), (4, .ref (gX E + 571)), (5, .int x5)] [] := by
  refine g_aload_n 1 dL_law_2318 rfl ?_
  obtain ⟨h339, hp⟩ := hp
  refine g_callV (rest := []) s_L_318_X11 rfl (c_X11_greatestLoss (E := E) (d := d - 1)   (by omega)  v h339) (by decide : kd 0 = (0, 8)) (show 0 < 572 by decide) rfl rfl (Nat.le_of_ble_eq_true rfl) (by omega) (by omega) (by omega) dL_law_2319 (adV ?_) axN
  refine g_aload_n 2 dL_law_2322 rfl ?_
  obtain ⟨h340, hp⟩ := hp
  refine g_callV (rest := [.int ((f_X11_greatestLoss  v))]) s_L_321_X12 rfl (c_X12_greatestLoss (E := E) (d := d - 1)   (by omega)  v h340) (by decide : kd 559 = (0, 9)) (show 559 < 572 by decide) rfl rfl (Nat.le_of_ble_eq_true rfl) (by omega) (by omega) (by omega) dL_law_2323 (adV ?_) axN
  refine g_room (k' := (322 * nf + 0)) (n' := (2566 * nf + 0)) (by omega) (by omega) ?_
  exact w_L_law_2326 nf N xs hN hxs hd K28 PK28 hK28 x5 ((f_X12_greatestLoss  v).1) (f_X11_greatestLoss  v) (f_X12_greatestLoss  v).2 hp hQ
def f_L_law_2396 (N : Nat) (xs : Nat → Int32) (K28 : Int32 → gV → Int32 × gV)  (x5 : Int32) (v : gV) : Int32 × gV := f_L_law_3401 N xs K28 x5 v
def p_L_law_2396 (N : Nat) (xs : Nat → Int32) (K28 : Int32 → gV → Int32 × gV)  (PK28 : Int32 → gV → Prop)  (x5 : Int32) (v : gV) : Prop := p_L_law_3401 N xs K28 PK28 x5 v
set_option maxHeartbeats 4000000 in
set_option maxRecDepth 100000 in
theorem w_L_law_2396 {E : gE} {d : Nat} {Q : gO → gS → Prop} (nf : Nat) (N : Nat) (xs : Nat → Int32) (hN : gva E 201 = N) (hxs : gxs E = xs) (hd : 16 ≤ d) (K28 : Int32 → gV → Int32 × gV)  (PK28 : Int32 → gV → Prop)  (hK28 : ∀ (x5 : Int32) (v : gV), PK28 x5 v → gqIV Q (K28 x5 v) → gG E m_L_law d Q (322 * nf) (2566 * nf) (rS v) 28 [(0, .ref (gva E 200)), (1, .ref (gX E + 0)), (2, .ref (gX E + 559)), (3, .ref (gX E + 570)), (4, .ref (gX E + 571)), (5, .int x5)] [])  (x5 : Int32) (v : gV) (hp : p_L_law_2396 N xs K28 PK28 x5 v) (hQ : gqIV Q (f_L_law_2396 N xs K28 x5 v)) : gG E m_L_law d Q (322 * nf + 0) (2566 * nf + 0) (rS v) 2396 [(0, .ref (gva E 200)), (1, .ref (gX E + 0)), (2, .ref (gX E + 559)), (3, .ref (gX E + 570)), (4, .ref (gX E + 571)), (5, .int x5)] [] := by
  refine g_goto 3401 dL_law_2396 (by decide) ?_
  refine g_room (k' := (322 * nf + 0)) (n' := (2566 * nf + 0)) (by omega) (by omega) ?_
  exact w_L_law_3401 nf N xs hN hxs hd K28 PK28 hK28 x5 v hp hQ
def f_L_law_2366 (N : Nat) (xs : Nat → Int32) (K28 : Int32 → gV → Int32 × gV)  (x5 : Int32) (x6 : Int32) (s0 : Int32) (v : gV) : Int32 × gV := if (f_X12_thrown  v) = x6 then (if x6 = 0 then (if (lg_cmp (v.2.1 570 (0 : Int32).toNatClampNeg) s0.toInt64) = 0 then (f_L_law_2396 N xs K28 x5 v) else (((0 : Int32), v))) else (f_L_law_2396 N xs K28 x5 v)) else (((0 : Int32), v))
def p_L_law_2366 (N : Nat) (xs : Nat → Int32) (K28 : Int32 → gV → Int32 × gV)  (PK28 : Int32 → gV → Prop)  (x5 : Int32) (x6 : Int32) (s0 : Int32) (v : gV) : Prop := (p_X12_thrown  v) ∧ ((((f_X12_thrown  v) = x6) → (((x6 = 0) → ((((lg_cmp (v.2.1 570 (0 : Int32).toNatClampNeg) s0.toInt64) = 0) → (p_L_law_2396 N xs K28 PK28 x5 v)) ∧ (¬ ((lg_cmp (v.2.1 570 (0 : Int32).toNatClampNeg) s0.toInt64) = 0) → (True)))) ∧ (¬ (x6 = 0) → (p_L_law_2396 N xs K28 PK28 x5 v)))) ∧ (¬ ((f_X12_thrown  v) = x6) → (True)))
set_option maxHeartbeats 4000000 in
set_option maxRecDepth 100000 in
theorem w_L_law_2366 {E : gE} {d : Nat} {Q : gO → gS → Prop} (nf : Nat) (N : Nat) (xs : Nat → Int32) (hN : gva E 201 = N) (hxs : gxs E = xs) (hd : 16 ≤ d) (K28 : Int32 → gV → Int32 × gV)  (PK28 : Int32 → gV → Prop)  (hK28 : ∀ (x5 : Int32) (v : gV), PK28 x5 v → gqIV Q (K28 x5 v) → gG E m_L_law d Q (322 * nf) (2566 * nf) (rS v) 28 [(0, .ref (gva E 200)), (1, .ref (gX E + 0)), (2, .ref (gX E + 559)), (3, .ref (gX E + 570)), (4, .ref (gX E + 571)), (5, .int x5)] [])  (x5 : Int32) (x6 : Int32) (s0 : Int32) (v : gV) (hp : p_L_law_2366 N xs K28 PK28 x5 x6 s0 v) (hQ : gqIV Q (f_L_law_2366 N xs K28 x5 x6 s0 v)) : gG E m_L_law d Q (322 * nf + 0) (2566 * nf + 0) (rS v) 2366 [(0, .ref (gva E 200)), (1, .ref (gX E + 0)), (2, .ref (gX E + 559)), (3, .ref (gX E + 570)), (4, .ref (gX E + 571)), (5, .int x5), (6, .int x6)] [.int s0] := by
  refine g_istore [(7, .int s0), (0, .ref (gva E 200)), (1, .ref (gX E + 0)), (2, .ref (gX E + 559)), (3, .ref (gX E + 570)), (4, .ref (gX E + 571)), (5, .int x5), (6, .int x6)] dL_law_2366 (by decide) rfl ?_
  refine g_aload_n 3 dL_law_2368 rfl ?_
  obtain ⟨h349, hp⟩ := hp
  refine g_callV (rest := []) s_L_193_X12 rfl (c_X12_thrown (E := E) (d := d - 1)   (by omega)  v h349) (by decide : kd 559 = (0, 9)) (show 559 < 572 by decide) rfl rfl (Nat.le_of_ble_eq_true rfl) (by omega) (by omega) (by omega) dL_law_2369 (adV ?_) axN
  refine g_iload 7 dL_law_2372 rfl ?_
  refine g_icmp_eq 2379 dL_law_2374 (by decide) (fun h350 => ?_) (fun h350 => ?_)
  · have hQ := qp (P := gqIV Q) h350 hQ
    have hp := hp.1 h350
    refine g_iload 7 dL_law_2379 rfl ?_
    refine g_if_ne 2396 dL_law_2381 (by decide) (fun h351 => ?_) (fun h351 => ?_)
    · have hQ := qn (P := gqIV Q) h351 hQ
      have hp := hp.2 h351
      refine g_room (k' := (322 * nf + 0)) (n' := (2566 * nf + 0)) (by omega) (by omega) ?_
      refine g_lv (lv' := [(0, .ref (gva E 200)), (1, .ref (gX E + 0)), (2, .ref (gX E + 559)), (3, .ref (gX E + 570)), (4, .ref (gX E + 571)), (5, .int x5)]) [1, 2, 3, 4, 5, 6] rfl ?_
      exact w_L_law_2396 nf N xs hN hxs hd K28 PK28 hK28 x5 v hp hQ
    · have hQ := qp (P := gqIV Q) h351 hQ
      have hp := hp.1 h351
      refine g_aload_n 4 dL_law_2384 rfl ?_
      refine g_iconst dL_law_2385 (0 : Int32) (by decide) ?_
      refine g_lald (by decide : kd 570 = (3, 1)) (show 570 < 572 by decide) (show ¬ (_ ∨ _) by decide) dL_law_2386 ?_
      refine g_iload 0 dL_law_2387 rfl ?_
      refine g_i2l dL_law_2389 ?_
      refine g_lcmp dL_law_2390 ?_
      refine g_if_eq 2396 dL_law_2391 (by decide) (fun h352 => ?_) (fun h352 => ?_)
      · have hQ := qp (P := gqIV Q) h352 hQ
        have hp := hp.1 h352
        refine g_room (k' := (322 * nf + 0)) (n' := (2566 * nf + 0)) (by omega) (by omega) ?_
        refine g_lv (lv' := [(0, .ref (gva E 200)), (1, .ref (gX E + 0)), (2, .ref (gX E + 559)), (3, .ref (gX E + 570)), (4, .ref (gX E + 571)), (5, .int x5)]) [1, 2, 3, 4, 5, 6] rfl ?_
        exact w_L_law_2396 nf N xs hN hxs hd K28 PK28 hK28 x5 v hp hQ
      · have hQ := qn (P := gqIV Q) h352 hQ
        have hp := hp.2 h352
        refine g_iconst dL_law_2394 (0 : Int32) (by decide) ?_
        exact g_zret rfl rfl dL_law_2395 hQ
  · have hQ := qn (P := gqIV Q) h350 hQ
    have hp := hp.2 h350
    refine g_iconst dL_law_2377 (0 : Int32) (by decide) ?_
    exact g_zret rfl rfl dL_law_2378 hQ
def f_L_law_2348 (N : Nat) (xs : Nat → Int32) (K28 : Int32 → gV → Int32 × gV)  (x5 : Int32) (s0 : Int32) (v : gV) : Int32 × gV := f_L_law_2366 N xs K28 x5 s0 ((f_X12_paidIn (xs (x5 + (1 : Int32)).toNatClampNeg) (xs (x5 + (2 : Int32)).toNatClampNeg) v).1) (f_X12_paidIn (xs (x5 + (1 : Int32)).toNatClampNeg) (xs (x5 + (2 : Int32)).toNatClampNeg) v).2
def p_L_law_2348 (N : Nat) (xs : Nat → Int32) (K28 : Int32 → gV → Int32 × gV)  (PK28 : Int32 → gV → Prop)  (x5 : Int32) (s0 : Int32) (v : gV) : Prop := (vp_in (x5 + (1 : Int32)) N) ∧ ((vp_in (x5 + (2 : Int32)) N) ∧ ((p_X12_paidIn (xs (x5 + (1 : Int32)).toNatClampNeg) (xs (x5 + (2 : Int32)).toNatClampNeg) v) ∧ (p_L_law_2366 N xs K28 PK28 x5 s0 ((f_X12_paidIn (xs (x5 + (1 : Int32)).toNatClampNeg) (xs (x5 + (2 : Int32)).toNatClampNeg) v).1) (f_X12_paidIn (xs (x5 + (1 : Int32)).toNatClampNeg) (xs (x5 + (2 : Int32)).toNatClampNeg) v).2)))
set_option maxHeartbeats 4000000 in
set_option maxRecDepth 100000 in
theorem w_L_law_2348 {E : gE} {d : Nat} {Q : gO → gS → Prop} (nf : Nat) (N : Nat) (xs : Nat → Int32) (hN : gva E 201 = N) (hxs : gxs E = xs) (hd : 16 ≤ d) (K28 : Int32 → gV → Int32 × gV)  (PK28 : Int32 → gV → Prop)  (hK28 : ∀ (x5 : Int32) (v : gV), PK28 x5 v → gqIV Q (K28 x5 v) → gG E m_L_law d Q (322 * nf) (2566 * nf) (rS v) 28 [(0, .ref (gva E 200)), (1, .ref (gX E + 0)), (2, .ref (gX E + 559)), (3, .ref (gX E + 570)), (4, .ref (gX E + 571)), (5, .int x5)] [])  (x5 : Int32) (s0 : Int32) (v : gV) (hp : p_L_law_2348 N xs K28 PK28 x5 s0 v) (hQ : gqIV Q (f_L_law_2348 N xs K28 x5 s0 v)) : gG E m_L_law d Q (322 * nf + 0) (2566 * nf + 0) (rS v) 2348 [(0, .ref (gva E 200)), (1, .ref (gX E + 0)), (2, .ref (gX E + 559)), (3, .ref (gX E + 570)), (4, .ref (gX E + 571)), (5, .int x5)] [.int s0] := by
  refine g_istore [(6, .int s0), (0, .ref (gva E 200)), (1, .ref (gX E + 0)), (2, .ref (gX E + 559)), (3, .ref (gX E + 570)), (4, .ref (gX E + 571)), (5, .int x5)] dL_law_2348 (by decide) rfl ?_
  refine g_aload_n 3 dL_law_2350 rfl ?_
  refine g_aload_n 1 dL_law_2351 rfl ?_
  refine g_iload 6 dL_law_2352 rfl ?_
  refine g_iconst dL_law_2354 (1 : Int32) (by decide) ?_
  refine g_iadd dL_law_2355 ?_
  obtain ⟨h346, hp⟩ := hp
  refine g_sld hN hxs h346 dL_law_2356 ?_
  refine g_aload_n 1 dL_law_2357 rfl ?_
  refine g_iload 6 dL_law_2358 rfl ?_
  refine g_iconst dL_law_2360 (2 : Int32) (by decide) ?_
  refine g_iadd dL_law_2361 ?_
  obtain ⟨h347, hp⟩ := hp
  refine g_sld hN hxs h347 dL_law_2362 ?_
  obtain ⟨h348, hp⟩ := hp
  refine g_callV (rest := []) s_L_324_X12 rfl (c_X12_paidIn (E := E) (d := d - 1)   (by omega) (xs (x5 + (1 : Int32)).toNatClampNeg) (xs (x5 + (2 : Int32)).toNatClampNeg) v h348) (by decide : kd 559 = (0, 9)) (show 559 < 572 by decide) rfl rfl (Nat.le_of_ble_eq_true rfl) (by omega) (by omega) (by omega) dL_law_2363 (adV ?_) axN
  refine g_room (k' := (322 * nf + 0)) (n' := (2566 * nf + 0)) (by omega) (by omega) ?_
  refine g_lv (lv' := [(0, .ref (gva E 200)), (1, .ref (gX E + 0)), (2, .ref (gX E + 559)), (3, .ref (gX E + 570)), (4, .ref (gX E + 571)), (5, .int x5), (6, .int s0)]) [1, 2, 3, 4, 5, 6, 0] rfl ?_
  exact w_L_law_2366 nf N xs hN hxs hd K28 PK28 hK28 x5 s0 ((f_X12_paidIn (xs (x5 + (1 : Int32)).toNatClampNeg) (xs (x5 + (2 : Int32)).toNatClampNeg) v).1) (f_X12_paidIn (xs (x5 + (1 : Int32)).toNatClampNeg) (xs (x5 + (2 : Int32)).toNatClampNeg) v).2 hp hQ
def f_L_law_2331 (N : Nat) (xs : Nat → Int32) (K28 : Int32 → gV → Int32 × gV)  (x5 : Int32) (v : gV) : Int32 × gV := f_L_law_2348 N xs K28 x5 ((f_L_paidIn (xs (x5 + (1 : Int32)).toNatClampNeg) (xs (x5 + (2 : Int32)).toNatClampNeg) v).1) (f_L_paidIn (xs (x5 + (1 : Int32)).toNatClampNeg) (xs (x5 + (2 : Int32)).toNatClampNeg) v).2
def p_L_law_2331 (N : Nat) (xs : Nat → Int32) (K28 : Int32 → gV → Int32 × gV)  (PK28 : Int32 → gV → Prop)  (x5 : Int32) (v : gV) : Prop := (vp_in (x5 + (1 : Int32)) N) ∧ ((vp_in (x5 + (2 : Int32)) N) ∧ ((p_L_paidIn (xs (x5 + (1 : Int32)).toNatClampNeg) (xs (x5 + (2 : Int32)).toNatClampNeg) v) ∧ (p_L_law_2348 N xs K28 PK28 x5 ((f_L_paidIn (xs (x5 + (1 : Int32)).toNatClampNeg) (xs (x5 + (2 : Int32)).toNatClampNeg) v).1) (f_L_paidIn (xs (x5 + (1 : Int32)).toNatClampNeg) (xs (x5 + (2 : Int32)).toNatClampNeg) v).2)))
set_option maxHeartbeats 4000000 in
set_option maxRecDepth 100000 in
theorem w_L_law_2331 {E : gE} {d : Nat} {Q : gO → gS → Prop} (nf : Nat) (N : Nat) (xs : Nat → Int32) (hN : gva E 201 = N) (hxs : gxs E = xs) (hd : 16 ≤ d) (K28 : Int32 → gV → Int32 × gV)  (PK28 : Int32 → gV → Prop)  (hK28 : ∀ (x5 : Int32) (v : gV), PK28 x5 v → gqIV Q (K28 x5 v) → gG E m_L_law d Q (322 * nf) (2566 * nf) (rS v) 28 [(0, .ref (gva E 200)), (1, .ref (gX E + 0)), (2, .ref (gX E + 559)), (3, .ref (gX E + 570)), (4, .ref (gX E + 571)), (5, .int x5)] [])  (x5 : Int32) (v : gV) (hp : p_L_law_2331 N xs K28 PK28 x5 v) (hQ : gqIV Q (f_L_law_2331 N xs K28 x5 v)) : gG E m_L_law d Q (322 * nf + 2) (2566 * nf + 12) (rS v) 2331 [(0, .ref (gva E 200)), (1, .ref (gX E + 0)), (2, .ref (gX E + 559)), (3, .ref (gX E + 570)), (4, .ref (gX E + 571)), (5, .int x5)] [] := by
  refine g_aload_n 1 dL_law_2331 rfl ?_
  refine g_aload_n 0 dL_law_2332 rfl ?_
  refine g_iload 5 dL_law_2333 rfl ?_
  refine g_iconst dL_law_2335 (1 : Int32) (by decide) ?_
  refine g_iadd dL_law_2336 ?_
  obtain ⟨h343, hp⟩ := hp
  refine g_sld hN hxs h343 dL_law_2337 ?_
  refine g_aload_n 0 dL_law_2338 rfl ?_
  refine g_iload 5 dL_law_2339 rfl ?_
  refine g_iconst dL_law_2341 (2 : Int32) (by decide) ?_
  refine g_iadd dL_law_2342 ?_
  obtain ⟨h344, hp⟩ := hp
  refine g_sld hN hxs h344 dL_law_2343 ?_
  refine g_aload_n 3 dL_law_2344 rfl ?_
  obtain ⟨h345, hp⟩ := hp
  refine g_callT (rest := []) s_L_322 rfl (c_L_paidIn (E := E) (d := d - 1)   (by omega) (xs (x5 + (1 : Int32)).toNatClampNeg) (xs (x5 + (2 : Int32)).toNatClampNeg) v h345) cqn rfl rfl (Nat.le_of_ble_eq_true rfl) (by omega) (by omega) (by omega) dL_law_2345 (adV ?_)
  refine g_room (k' := (322 * nf + 0)) (n' := (2566 * nf + 0)) (by omega) (by omega) ?_
  exact w_L_law_2348 nf N xs hN hxs hd K28 PK28 hK28 x5 ((f_L_paidIn (xs (x5 + (1 : Int32)).toNatClampNeg) (xs (x5 + (2 : Int32)).toNatClampNeg) v).1) (f_L_paidIn (xs (x5 + (1 : Int32)).toNatClampNeg) (xs (x5 + (2 : Int32)).toNatClampNeg) v).2 hp hQ
def f_L_law_2407 (N : Nat) (xs : Nat → Int32) (K28 : Int32 → gV → Int32 × gV)  (x5 : Int32) (s0 : Int32) (s1 : Int32) (v : gV) : Int32 × gV := if s1 = s0 then (f_L_law_3401 N xs K28 x5 v) else (((0 : Int32), v))
def p_L_law_2407 (N : Nat) (xs : Nat → Int32) (K28 : Int32 → gV → Int32 × gV)  (PK28 : Int32 → gV → Prop)  (x5 : Int32) (s0 : Int32) (s1 : Int32) (v : gV) : Prop := ((s1 = s0) → (p_L_law_3401 N xs K28 PK28 x5 v)) ∧ (¬ (s1 = s0) → (True))
set_option maxHeartbeats 4000000 in
set_option maxRecDepth 100000 in
theorem w_L_law_2407 {E : gE} {d : Nat} {Q : gO → gS → Prop} (nf : Nat) (N : Nat) (xs : Nat → Int32) (hN : gva E 201 = N) (hxs : gxs E = xs) (hd : 16 ≤ d) (K28 : Int32 → gV → Int32 × gV)  (PK28 : Int32 → gV → Prop)  (hK28 : ∀ (x5 : Int32) (v : gV), PK28 x5 v → gqIV Q (K28 x5 v) → gG E m_L_law d Q (322 * nf) (2566 * nf) (rS v) 28 [(0, .ref (gva E 200)), (1, .ref (gX E + 0)), (2, .ref (gX E + 559)), (3, .ref (gX E + 570)), (4, .ref (gX E + 571)), (5, .int x5)] [])  (x5 : Int32) (s0 : Int32) (s1 : Int32) (v : gV) (hp : p_L_law_2407 N xs K28 PK28 x5 s0 s1 v) (hQ : gqIV Q (f_L_law_2407 N xs K28 x5 s0 s1 v)) : gG E m_L_law d Q (322 * nf + 0) (2566 * nf + 0) (rS v) 2407 [(0, .ref (gva E 200)), (1, .ref (gX E + 0)), (2, .ref (gX E + 559)), (3, .ref (gX E + 570)), (4, .ref (gX E + 571)), (5, .int x5)] [.int s0, .int s1] := by
  refine g_icmp_eq 3401 dL_law_2407 (by decide) (fun h356 => ?_) (fun h356 => ?_)
  · have hQ := qp (P := gqIV Q) h356 hQ
    have hp := hp.1 h356
    refine g_room (k' := (322 * nf + 0)) (n' := (2566 * nf + 0)) (by omega) (by omega) ?_
    exact w_L_law_3401 nf N xs hN hxs hd K28 PK28 hK28 x5 v hp hQ
  · have hQ := qn (P := gqIV Q) h356 hQ
    have hp := hp.2 h356
    refine g_iconst dL_law_2410 (0 : Int32) (by decide) ?_
    exact g_zret rfl rfl dL_law_2411 hQ
def f_L_law_2399 (N : Nat) (xs : Nat → Int32) (K28 : Int32 → gV → Int32 × gV)  (x5 : Int32) (v : gV) : Int32 × gV := f_L_law_2407 N xs K28 x5 ((f_X12_lastPeriod  v).1) (f_X11_lastPeriod  v) (f_X12_lastPeriod  v).2
def p_L_law_2399 (N : Nat) (xs : Nat → Int32) (K28 : Int32 → gV → Int32 × gV)  (PK28 : Int32 → gV → Prop)  (x5 : Int32) (v : gV) : Prop := (p_X11_lastPeriod  v) ∧ ((p_X12_lastPeriod  v) ∧ (p_L_law_2407 N xs K28 PK28 x5 ((f_X12_lastPeriod  v).1) (f_X11_lastPeriod  v) (f_X12_lastPeriod  v).2))
set_option maxHeartbeats 4000000 in
set_option maxRecDepth 100000 in
theorem w_L_law_2399 {E : gE} {d : Nat} {Q : gO → gS → Prop} (nf : Nat) (N : Nat) (xs : Nat → Int32) (hN : gva E 201 = N) (hxs : gxs E = xs) (hd : 16 ≤ d) (K28 : Int32 → gV → Int32 × gV)  (PK28 : Int32 → gV → Prop)  (hK28 : ∀ (x5 : Int32) (v : gV), PK28 x5 v → gqIV Q (K28 x5 v) → gG E m_L_law d Q (322 * nf) (2566 * nf) (rS v) 28 [(0, .ref (gva E 200)), (1, .ref (gX E + 0)), (2, .ref (gX E + 559)), (3, .ref (gX E + 570)), (4, .ref (gX E + 571)), (5, .int x5)] [])  (x5 : Int32) (v : gV) (hp : p_L_law_2399 N xs K28 PK28 x5 v) (hQ : gqIV Q (f_L_law_2399 N xs K28 x5 v)) : gG E m_L_law d Q (322 * nf + 0) (2566 * nf + 0) (rS v) 2399 [(0, .ref (gva E 200)), (1, .ref (gX E + 0)), (2, .ref (gX E + 559)), (3, .ref (gX E + 570)), (4, .ref (gX E + 571)), (5, .int x5)] [] := by
  refine g_aload_n 1 dL_law_2399 rfl ?_
  obtain ⟨h354, hp⟩ := hp
  refine g_callV (rest := []) s_L_325_X11 rfl (c_X11_lastPeriod (E := E) (d := d - 1)   (by omega)  v h354) (by decide : kd 0 = (0, 8)) (show 0 < 572 by decide) rfl rfl (Nat.le_of_ble_eq_true rfl) (by omega) (by omega) (by omega) dL_law_2400 (adV ?_) axN
  refine g_aload_n 2 dL_law_2403 rfl ?_
  obtain ⟨h355, hp⟩ := hp
  refine g_callV (rest := [.int ((f_X11_lastPeriod  v))]) s_L_328_X12 rfl (c_X12_lastPeriod (E := E) (d := d - 1)   (by omega)  v h355) (by decide : kd 559 = (0, 9)) (show 559 < 572 by decide) rfl rfl (Nat.le_of_ble_eq_true rfl) (by omega) (by omega) (by omega) dL_law_2404 (adV ?_) axN
  refine g_room (k' := (322 * nf + 0)) (n' := (2566 * nf + 0)) (by omega) (by omega) ?_
  exact w_L_law_2407 nf N xs hN hxs hd K28 PK28 hK28 x5 ((f_X12_lastPeriod  v).1) (f_X11_lastPeriod  v) (f_X12_lastPeriod  v).2 hp hQ
def f_L_law_2465 (N : Nat) (xs : Nat → Int32) (K28 : Int32 → gV → Int32 × gV)  (x5 : Int32) (v : gV) : Int32 × gV := f_L_law_3401 N xs K28 x5 v
def p_L_law_2465 (N : Nat) (xs : Nat → Int32) (K28 : Int32 → gV → Int32 × gV)  (PK28 : Int32 → gV → Prop)  (x5 : Int32) (v : gV) : Prop := p_L_law_3401 N xs K28 PK28 x5 v
set_option maxHeartbeats 4000000 in
set_option maxRecDepth 100000 in
theorem w_L_law_2465 {E : gE} {d : Nat} {Q : gO → gS → Prop} (nf : Nat) (N : Nat) (xs : Nat → Int32) (hN : gva E 201 = N) (hxs : gxs E = xs) (hd : 16 ≤ d) (K28 : Int32 → gV → Int32 × gV)  (PK28 : Int32 → gV → Prop)  (hK28 : ∀ (x5 : Int32) (v : gV), PK28 x5 v → gqIV Q (K28 x5 v) → gG E m_L_law d Q (322 * nf) (2566 * nf) (rS v) 28 [(0, .ref (gva E 200)), (1, .ref (gX E + 0)), (2, .ref (gX E + 559)), (3, .ref (gX E + 570)), (4, .ref (gX E + 571)), (5, .int x5)] [])  (x5 : Int32) (v : gV) (hp : p_L_law_2465 N xs K28 PK28 x5 v) (hQ : gqIV Q (f_L_law_2465 N xs K28 x5 v)) : gG E m_L_law d Q (322 * nf + 0) (2566 * nf + 0) (rS v) 2465 [(0, .ref (gva E 200)), (1, .ref (gX E + 0)), (2, .ref (gX E + 559)), (3, .ref (gX E + 570)), (4, .ref (gX E + 571)), (5, .int x5)] [] := by
  refine g_goto 3401 dL_law_2465 (by decide) ?_
  refine g_room (k' := (322 * nf + 0)) (n' := (2566 * nf + 0)) (by omega) (by omega) ?_
  exact w_L_law_3401 nf N xs hN hxs hd K28 PK28 hK28 x5 v hp hQ
def f_L_law_2435 (N : Nat) (xs : Nat → Int32) (K28 : Int32 → gV → Int32 × gV)  (x5 : Int32) (x6 : Int32) (s0 : Int32) (v : gV) : Int32 × gV := if (f_X12_thrown  v) = x6 then (if x6 = 0 then (if (lg_cmp (v.2.1 570 (0 : Int32).toNatClampNeg) s0.toInt64) = 0 then (f_L_law_2465 N xs K28 x5 v) else (((0 : Int32), v))) else (f_L_law_2465 N xs K28 x5 v)) else (((0 : Int32), v))
def p_L_law_2435 (N : Nat) (xs : Nat → Int32) (K28 : Int32 → gV → Int32 × gV)  (PK28 : Int32 → gV → Prop)  (x5 : Int32) (x6 : Int32) (s0 : Int32) (v : gV) : Prop := (p_X12_thrown  v) ∧ ((((f_X12_thrown  v) = x6) → (((x6 = 0) → ((((lg_cmp (v.2.1 570 (0 : Int32).toNatClampNeg) s0.toInt64) = 0) → (p_L_law_2465 N xs K28 PK28 x5 v)) ∧ (¬ ((lg_cmp (v.2.1 570 (0 : Int32).toNatClampNeg) s0.toInt64) = 0) → (True)))) ∧ (¬ (x6 = 0) → (p_L_law_2465 N xs K28 PK28 x5 v)))) ∧ (¬ ((f_X12_thrown  v) = x6) → (True)))
set_option maxHeartbeats 4000000 in
set_option maxRecDepth 100000 in
theorem w_L_law_2435 {E : gE} {d : Nat} {Q : gO → gS → Prop} (nf : Nat) (N : Nat) (xs : Nat → Int32) (hN : gva E 201 = N) (hxs : gxs E = xs) (hd : 16 ≤ d) (K28 : Int32 → gV → Int32 × gV)  (PK28 : Int32 → gV → Prop)  (hK28 : ∀ (x5 : Int32) (v : gV), PK28 x5 v → gqIV Q (K28 x5 v) → gG E m_L_law d Q (322 * nf) (2566 * nf) (rS v) 28 [(0, .ref (gva E 200)), (1, .ref (gX E + 0)), (2, .ref (gX E + 559)), (3, .ref (gX E + 570)), (4, .ref (gX E + 571)), (5, .int x5)] [])  (x5 : Int32) (x6 : Int32) (s0 : Int32) (v : gV) (hp : p_L_law_2435 N xs K28 PK28 x5 x6 s0 v) (hQ : gqIV Q (f_L_law_2435 N xs K28 x5 x6 s0 v)) : gG E m_L_law d Q (322 * nf + 0) (2566 * nf + 0) (rS v) 2435 [(0, .ref (gva E 200)), (1, .ref (gX E + 0)), (2, .ref (gX E + 559)), (3, .ref (gX E + 570)), (4, .ref (gX E + 571)), (5, .int x5), (6, .int x6)] [.int s0] := by
  refine g_istore [(7, .int s0), (0, .ref (gva E 200)), (1, .ref (gX E + 0)), (2, .ref (gX E + 559)), (3, .ref (gX E + 570)), (4, .ref (gX E + 571)), (5, .int x5), (6, .int x6)] dL_law_2435 (by decide) rfl ?_
  refine g_aload_n 3 dL_law_2437 rfl ?_
  obtain ⟨h362, hp⟩ := hp
  refine g_callV (rest := []) s_L_193_X12 rfl (c_X12_thrown (E := E) (d := d - 1)   (by omega)  v h362) (by decide : kd 559 = (0, 9)) (show 559 < 572 by decide) rfl rfl (Nat.le_of_ble_eq_true rfl) (by omega) (by omega) (by omega) dL_law_2438 (adV ?_) axN
  refine g_iload 7 dL_law_2441 rfl ?_
  refine g_icmp_eq 2448 dL_law_2443 (by decide) (fun h363 => ?_) (fun h363 => ?_)
  · have hQ := qp (P := gqIV Q) h363 hQ
    have hp := hp.1 h363
    refine g_iload 7 dL_law_2448 rfl ?_
    refine g_if_ne 2465 dL_law_2450 (by decide) (fun h364 => ?_) (fun h364 => ?_)
    · have hQ := qn (P := gqIV Q) h364 hQ
      have hp := hp.2 h364
      refine g_room (k' := (322 * nf + 0)) (n' := (2566 * nf + 0)) (by omega) (by omega) ?_
      refine g_lv (lv' := [(0, .ref (gva E 200)), (1, .ref (gX E + 0)), (2, .ref (gX E + 559)), (3, .ref (gX E + 570)), (4, .ref (gX E + 571)), (5, .int x5)]) [1, 2, 3, 4, 5, 6] rfl ?_
      exact w_L_law_2465 nf N xs hN hxs hd K28 PK28 hK28 x5 v hp hQ
    · have hQ := qp (P := gqIV Q) h364 hQ
      have hp := hp.1 h364
      refine g_aload_n 4 dL_law_2453 rfl ?_
      refine g_iconst dL_law_2454 (0 : Int32) (by decide) ?_
      refine g_lald (by decide : kd 570 = (3, 1)) (show 570 < 572 by decide) (show ¬ (_ ∨ _) by decide) dL_law_2455 ?_
      refine g_iload 0 dL_law_2456 rfl ?_
      refine g_i2l dL_law_2458 ?_
      refine g_lcmp dL_law_2459 ?_
      refine g_if_eq 2465 dL_law_2460 (by decide) (fun h365 => ?_) (fun h365 => ?_)
      · have hQ := qp (P := gqIV Q) h365 hQ
        have hp := hp.1 h365
        refine g_room (k' := (322 * nf + 0)) (n' := (2566 * nf + 0)) (by omega) (by omega) ?_
        refine g_lv (lv' := [(0, .ref (gva E 200)), (1, .ref (gX E + 0)), (2, .ref (gX E + 559)), (3, .ref (gX E + 570)), (4, .ref (gX E + 571)), (5, .int x5)]) [1, 2, 3, 4, 5, 6] rfl ?_
        exact w_L_law_2465 nf N xs hN hxs hd K28 PK28 hK28 x5 v hp hQ
      · have hQ := qn (P := gqIV Q) h365 hQ
        have hp := hp.2 h365
        refine g_iconst dL_law_2463 (0 : Int32) (by decide) ?_
        exact g_zret rfl rfl dL_law_2464 hQ
  · have hQ := qn (P := gqIV Q) h363 hQ
    have hp := hp.2 h363
    refine g_iconst dL_law_2446 (0 : Int32) (by decide) ?_
    exact g_zret rfl rfl dL_law_2447 hQ
def f_L_law_2423 (N : Nat) (xs : Nat → Int32) (K28 : Int32 → gV → Int32 × gV)  (x5 : Int32) (s0 : Int32) (v : gV) : Int32 × gV := f_L_law_2435 N xs K28 x5 s0 ((f_X12_projected (xs (x5 + (1 : Int32)).toNatClampNeg) v).1) (f_X12_projected (xs (x5 + (1 : Int32)).toNatClampNeg) v).2
def p_L_law_2423 (N : Nat) (xs : Nat → Int32) (K28 : Int32 → gV → Int32 × gV)  (PK28 : Int32 → gV → Prop)  (x5 : Int32) (s0 : Int32) (v : gV) : Prop := (vp_in (x5 + (1 : Int32)) N) ∧ ((p_X12_projected (xs (x5 + (1 : Int32)).toNatClampNeg) v) ∧ (p_L_law_2435 N xs K28 PK28 x5 s0 ((f_X12_projected (xs (x5 + (1 : Int32)).toNatClampNeg) v).1) (f_X12_projected (xs (x5 + (1 : Int32)).toNatClampNeg) v).2))
set_option maxHeartbeats 4000000 in
set_option maxRecDepth 100000 in
theorem w_L_law_2423 {E : gE} {d : Nat} {Q : gO → gS → Prop} (nf : Nat) (N : Nat) (xs : Nat → Int32) (hN : gva E 201 = N) (hxs : gxs E = xs) (hd : 16 ≤ d) (K28 : Int32 → gV → Int32 × gV)  (PK28 : Int32 → gV → Prop)  (hK28 : ∀ (x5 : Int32) (v : gV), PK28 x5 v → gqIV Q (K28 x5 v) → gG E m_L_law d Q (322 * nf) (2566 * nf) (rS v) 28 [(0, .ref (gva E 200)), (1, .ref (gX E + 0)), (2, .ref (gX E + 559)), (3, .ref (gX E + 570)), (4, .ref (gX E + 571)), (5, .int x5)] [])  (x5 : Int32) (s0 : Int32) (v : gV) (hp : p_L_law_2423 N xs K28 PK28 x5 s0 v) (hQ : gqIV Q (f_L_law_2423 N xs K28 x5 s0 v)) : gG E m_L_law d Q (322 * nf + 0) (2566 * nf + 0) (rS v) 2423 [(0, .ref (gva E 200)), (1, .ref (gX E + 0)), (2, .ref (gX E + 559)), (3, .ref (gX E + 570)), (4, .ref (gX E + 571)), (5, .int x5)] [.int s0] := by
  refine g_istore [(6, .int s0), (0, .ref (gva E 200)), (1, .ref (gX E + 0)), (2, .ref (gX E + 559)), (3, .ref (gX E + 570)), (4, .ref (gX E + 571)), (5, .int x5)] dL_law_2423 (by decide) rfl ?_
  refine g_aload_n 3 dL_law_2425 rfl ?_
  refine g_aload_n 1 dL_law_2426 rfl ?_
  refine g_iload 6 dL_law_2427 rfl ?_
  refine g_iconst dL_law_2429 (1 : Int32) (by decide) ?_
  refine g_iadd dL_law_2430 ?_
  obtain ⟨h360, hp⟩ := hp
  refine g_sld hN hxs h360 dL_law_2431 ?_
  obtain ⟨h361, hp⟩ := hp
  refine g_callV (rest := []) s_L_331_X12 rfl (c_X12_projected (E := E) (d := d - 1)   (by omega) (xs (x5 + (1 : Int32)).toNatClampNeg) v h361) (by decide : kd 559 = (0, 9)) (show 559 < 572 by decide) rfl rfl (Nat.le_of_ble_eq_true rfl) (by omega) (by omega) (by omega) dL_law_2432 (adV ?_) axN
  refine g_room (k' := (322 * nf + 0)) (n' := (2566 * nf + 0)) (by omega) (by omega) ?_
  refine g_lv (lv' := [(0, .ref (gva E 200)), (1, .ref (gX E + 0)), (2, .ref (gX E + 559)), (3, .ref (gX E + 570)), (4, .ref (gX E + 571)), (5, .int x5), (6, .int s0)]) [1, 2, 3, 4, 5, 6, 0] rfl ?_
  exact w_L_law_2435 nf N xs hN hxs hd K28 PK28 hK28 x5 s0 ((f_X12_projected (xs (x5 + (1 : Int32)).toNatClampNeg) v).1) (f_X12_projected (xs (x5 + (1 : Int32)).toNatClampNeg) v).2 hp hQ
def f_L_law_2412 (N : Nat) (xs : Nat → Int32) (K28 : Int32 → gV → Int32 × gV)  (x5 : Int32) (v : gV) : Int32 × gV := f_L_law_2423 N xs K28 x5 ((f_L_projected (xs (x5 + (1 : Int32)).toNatClampNeg) v).1) (f_L_projected (xs (x5 + (1 : Int32)).toNatClampNeg) v).2
def p_L_law_2412 (N : Nat) (xs : Nat → Int32) (K28 : Int32 → gV → Int32 × gV)  (PK28 : Int32 → gV → Prop)  (x5 : Int32) (v : gV) : Prop := (vp_in (x5 + (1 : Int32)) N) ∧ ((p_L_projected (xs (x5 + (1 : Int32)).toNatClampNeg) v) ∧ (p_L_law_2423 N xs K28 PK28 x5 ((f_L_projected (xs (x5 + (1 : Int32)).toNatClampNeg) v).1) (f_L_projected (xs (x5 + (1 : Int32)).toNatClampNeg) v).2))
set_option maxHeartbeats 4000000 in
set_option maxRecDepth 100000 in
theorem w_L_law_2412 {E : gE} {d : Nat} {Q : gO → gS → Prop} (nf : Nat) (N : Nat) (xs : Nat → Int32) (hN : gva E 201 = N) (hxs : gxs E = xs) (hd : 16 ≤ d) (K28 : Int32 → gV → Int32 × gV)  (PK28 : Int32 → gV → Prop)  (hK28 : ∀ (x5 : Int32) (v : gV), PK28 x5 v → gqIV Q (K28 x5 v) → gG E m_L_law d Q (322 * nf) (2566 * nf) (rS v) 28 [(0, .ref (gva E 200)), (1, .ref (gX E + 0)), (2, .ref (gX E + 559)), (3, .ref (gX E + 570)), (4, .ref (gX E + 571)), (5, .int x5)] [])  (x5 : Int32) (v : gV) (hp : p_L_law_2412 N xs K28 PK28 x5 v) (hQ : gqIV Q (f_L_law_2412 N xs K28 x5 v)) : gG E m_L_law d Q (322 * nf + 1) (2566 * nf + 6) (rS v) 2412 [(0, .ref (gva E 200)), (1, .ref (gX E + 0)), (2, .ref (gX E + 559)), (3, .ref (gX E + 570)), (4, .ref (gX E + 571)), (5, .int x5)] [] := by
  refine g_aload_n 1 dL_law_2412 rfl ?_
  refine g_aload_n 0 dL_law_2413 rfl ?_
  refine g_iload 5 dL_law_2414 rfl ?_
  refine g_iconst dL_law_2416 (1 : Int32) (by decide) ?_
  refine g_iadd dL_law_2417 ?_
  obtain ⟨h358, hp⟩ := hp
  refine g_sld hN hxs h358 dL_law_2418 ?_
  refine g_aload_n 3 dL_law_2419 rfl ?_
  obtain ⟨h359, hp⟩ := hp
  refine g_callT (rest := []) s_L_329 rfl (c_L_projected (E := E) (d := d - 1)   (by omega) (xs (x5 + (1 : Int32)).toNatClampNeg) v h359) cqn rfl rfl (Nat.le_of_ble_eq_true rfl) (by omega) (by omega) (by omega) dL_law_2420 (adV ?_)
  refine g_room (k' := (322 * nf + 0)) (n' := (2566 * nf + 0)) (by omega) (by omega) ?_
  exact w_L_law_2423 nf N xs hN hxs hd K28 PK28 hK28 x5 ((f_L_projected (xs (x5 + (1 : Int32)).toNatClampNeg) v).1) (f_L_projected (xs (x5 + (1 : Int32)).toNatClampNeg) v).2 hp hQ
def f_L_law_2521 (N : Nat) (xs : Nat → Int32) (K28 : Int32 → gV → Int32 × gV)  (x5 : Int32) (v : gV) : Int32 × gV := f_L_law_3401 N xs K28 x5 v
def p_L_law_2521 (N : Nat) (xs : Nat → Int32) (K28 : Int32 → gV → Int32 × gV)  (PK28 : Int32 → gV → Prop)  (x5 : Int32) (v : gV) : Prop := p_L_law_3401 N xs K28 PK28 x5 v
set_option maxHeartbeats 4000000 in
set_option maxRecDepth 100000 in
theorem w_L_law_2521 {E : gE} {d : Nat} {Q : gO → gS → Prop} (nf : Nat) (N : Nat) (xs : Nat → Int32) (hN : gva E 201 = N) (hxs : gxs E = xs) (hd : 16 ≤ d) (K28 : Int32 → gV → Int32 × gV)  (PK28 : Int32 → gV → Prop)  (hK28 : ∀ (x5 : Int32) (v : gV), PK28 x5 v → gqIV Q (K28 x5 v) → gG E m_L_law d Q (322 * nf) (2566 * nf) (rS v) 28 [(0, .ref (gva E 200)), (1, .ref (gX E + 0)), (2, .ref (gX E + 559)), (3, .ref (gX E + 570)), (4, .ref (gX E + 571)), (5, .int x5)] [])  (x5 : Int32) (v : gV) (hp : p_L_law_2521 N xs K28 PK28 x5 v) (hQ : gqIV Q (f_L_law_2521 N xs K28 x5 v)) : gG E m_L_law d Q (322 * nf + 0) (2566 * nf + 0) (rS v) 2521 [(0, .ref (gva E 200)), (1, .ref (gX E + 0)), (2, .ref (gX E + 559)), (3, .ref (gX E + 570)), (4, .ref (gX E + 571)), (5, .int x5)] [] := by
  refine g_goto 3401 dL_law_2521 (by decide) ?_
  refine g_room (k' := (322 * nf + 0)) (n' := (2566 * nf + 0)) (by omega) (by omega) ?_
  exact w_L_law_3401 nf N xs hN hxs hd K28 PK28 hK28 x5 v hp hQ
def f_L_law_2491 (N : Nat) (xs : Nat → Int32) (K28 : Int32 → gV → Int32 × gV)  (x5 : Int32) (x6 : Int32) (s0 : Int32) (v : gV) : Int32 × gV := if (f_X12_thrown  v) = x6 then (if x6 = 0 then (if (lg_cmp (v.2.1 570 (0 : Int32).toNatClampNeg) s0.toInt64) = 0 then (f_L_law_2521 N xs K28 x5 v) else (((0 : Int32), v))) else (f_L_law_2521 N xs K28 x5 v)) else (((0 : Int32), v))
def p_L_law_2491 (N : Nat) (xs : Nat → Int32) (K28 : Int32 → gV → Int32 × gV)  (PK28 : Int32 → gV → Prop)  (x5 : Int32) (x6 : Int32) (s0 : Int32) (v : gV) : Prop := (p_X12_thrown  v) ∧ ((((f_X12_thrown  v) = x6) → (((x6 = 0) → ((((lg_cmp (v.2.1 570 (0 : Int32).toNatClampNeg) s0.toInt64) = 0) → (p_L_law_2521 N xs K28 PK28 x5 v)) ∧ (¬ ((lg_cmp (v.2.1 570 (0 : Int32).toNatClampNeg) s0.toInt64) = 0) → (True)))) ∧ (¬ (x6 = 0) → (p_L_law_2521 N xs K28 PK28 x5 v)))) ∧ (¬ ((f_X12_thrown  v) = x6) → (True)))
set_option maxHeartbeats 4000000 in
set_option maxRecDepth 100000 in
theorem w_L_law_2491 {E : gE} {d : Nat} {Q : gO → gS → Prop} (nf : Nat) (N : Nat) (xs : Nat → Int32) (hN : gva E 201 = N) (hxs : gxs E = xs) (hd : 16 ≤ d) (K28 : Int32 → gV → Int32 × gV)  (PK28 : Int32 → gV → Prop)  (hK28 : ∀ (x5 : Int32) (v : gV), PK28 x5 v → gqIV Q (K28 x5 v) → gG E m_L_law d Q (322 * nf) (2566 * nf) (rS v) 28 [(0, .ref (gva E 200)), (1, .ref (gX E + 0)), (2, .ref (gX E + 559)), (3, .ref (gX E + 570)), (4, .ref (gX E + 571)), (5, .int x5)] [])  (x5 : Int32) (x6 : Int32) (s0 : Int32) (v : gV) (hp : p_L_law_2491 N xs K28 PK28 x5 x6 s0 v) (hQ : gqIV Q (f_L_law_2491 N xs K28 x5 x6 s0 v)) : gG E m_L_law d Q (322 * nf + 0) (2566 * nf + 0) (rS v) 2491 [(0, .ref (gva E 200)), (1, .ref (gX E + 0)), (2, .ref (gX E + 559)), (3, .ref (gX E + 570)), (4, .ref (gX E + 571)), (5, .int x5), (6, .int x6)] [.int s0] := by
  refine g_istore [(7, .int s0), (0, .ref (gva E 200)), (1, .ref (gX E + 0)), (2, .ref (gX E + 559)), (3, .ref (gX E + 570)), (4, .ref (gX E + 571)), (5, .int x5), (6, .int x6)] dL_law_2491 (by decide) rfl ?_
  refine g_aload_n 3 dL_law_2493 rfl ?_
  obtain ⟨h371, hp⟩ := hp
  refine g_callV (rest := []) s_L_193_X12 rfl (c_X12_thrown (E := E) (d := d - 1)   (by omega)  v h371) (by decide : kd 559 = (0, 9)) (show 559 < 572 by decide) rfl rfl (Nat.le_of_ble_eq_true rfl) (by omega) (by omega) (by omega) dL_law_2494 (adV ?_) axN
  refine g_iload 7 dL_law_2497 rfl ?_
  refine g_icmp_eq 2504 dL_law_2499 (by decide) (fun h372 => ?_) (fun h372 => ?_)
  · have hQ := qp (P := gqIV Q) h372 hQ
    have hp := hp.1 h372
    refine g_iload 7 dL_law_2504 rfl ?_
    refine g_if_ne 2521 dL_law_2506 (by decide) (fun h373 => ?_) (fun h373 => ?_)
    · have hQ := qn (P := gqIV Q) h373 hQ
      have hp := hp.2 h373
      refine g_room (k' := (322 * nf + 0)) (n' := (2566 * nf + 0)) (by omega) (by omega) ?_
      refine g_lv (lv' := [(0, .ref (gva E 200)), (1, .ref (gX E + 0)), (2, .ref (gX E + 559)), (3, .ref (gX E + 570)), (4, .ref (gX E + 571)), (5, .int x5)]) [1, 2, 3, 4, 5, 6] rfl ?_
      exact w_L_law_2521 nf N xs hN hxs hd K28 PK28 hK28 x5 v hp hQ
    · have hQ := qp (P := gqIV Q) h373 hQ
      have hp := hp.1 h373
      refine g_aload_n 4 dL_law_2509 rfl ?_
      refine g_iconst dL_law_2510 (0 : Int32) (by decide) ?_
      refine g_lald (by decide : kd 570 = (3, 1)) (show 570 < 572 by decide) (show ¬ (_ ∨ _) by decide) dL_law_2511 ?_
      refine g_iload 0 dL_law_2512 rfl ?_
      refine g_i2l dL_law_2514 ?_
      refine g_lcmp dL_law_2515 ?_
      refine g_if_eq 2521 dL_law_2516 (by decide) (fun h374 => ?_) (fun h374 => ?_)
      · have hQ := qp (P := gqIV Q) h374 hQ
        have hp := hp.1 h374
        refine g_room (k' := (322 * nf + 0)) (n' := (2566 * nf + 0)) (by omega) (by omega) ?_
        refine g_lv (lv' := [(0, .ref (gva E 200)), (1, .ref (gX E + 0)), (2, .ref (gX E + 559)), (3, .ref (gX E + 570)), (4, .ref (gX E + 571)), (5, .int x5)]) [1, 2, 3, 4, 5, 6] rfl ?_
        exact w_L_law_2521 nf N xs hN hxs hd K28 PK28 hK28 x5 v hp hQ
      · have hQ := qn (P := gqIV Q) h374 hQ
        have hp := hp.2 h374
        refine g_iconst dL_law_2519 (0 : Int32) (by decide) ?_
        exact g_zret rfl rfl dL_law_2520 hQ
  · have hQ := qn (P := gqIV Q) h372 hQ
    have hp := hp.2 h372
    refine g_iconst dL_law_2502 (0 : Int32) (by decide) ?_
    exact g_zret rfl rfl dL_law_2503 hQ
def f_L_law_2479 (N : Nat) (xs : Nat → Int32) (K28 : Int32 → gV → Int32 × gV)  (x5 : Int32) (s0 : Int32) (v : gV) : Int32 × gV := f_L_law_2491 N xs K28 x5 s0 ((f_X12_projectedByRecursion (xs (x5 + (1 : Int32)).toNatClampNeg) v).1) (f_X12_projectedByRecursion (xs (x5 + (1 : Int32)).toNatClampNeg) v).2
def p_L_law_2479 (N : Nat) (xs : Nat → Int32) (K28 : Int32 → gV → Int32 × gV)  (PK28 : Int32 → gV → Prop)  (x5 : Int32) (s0 : Int32) (v : gV) : Prop := (vp_in (x5 + (1 : Int32)) N) ∧ ((p_X12_projectedByRecursion (xs (x5 + (1 : Int32)).toNatClampNeg) v) ∧ (p_L_law_2491 N xs K28 PK28 x5 s0 ((f_X12_projectedByRecursion (xs (x5 + (1 : Int32)).toNatClampNeg) v).1) (f_X12_projectedByRecursion (xs (x5 + (1 : Int32)).toNatClampNeg) v).2))
set_option maxHeartbeats 4000000 in
set_option maxRecDepth 100000 in
theorem w_L_law_2479 {E : gE} {d : Nat} {Q : gO → gS → Prop} (nf : Nat) (N : Nat) (xs : Nat → Int32) (hN : gva E 201 = N) (hxs : gxs E = xs) (hd : 16 ≤ d) (K28 : Int32 → gV → Int32 × gV)  (PK28 : Int32 → gV → Prop)  (hK28 : ∀ (x5 : Int32) (v : gV), PK28 x5 v → gqIV Q (K28 x5 v) → gG E m_L_law d Q (322 * nf) (2566 * nf) (rS v) 28 [(0, .ref (gva E 200)), (1, .ref (gX E + 0)), (2, .ref (gX E + 559)), (3, .ref (gX E + 570)), (4, .ref (gX E + 571)), (5, .int x5)] [])  (x5 : Int32) (s0 : Int32) (v : gV) (hp : p_L_law_2479 N xs K28 PK28 x5 s0 v) (hQ : gqIV Q (f_L_law_2479 N xs K28 x5 s0 v)) : gG E m_L_law d Q (322 * nf + 0) (2566 * nf + 0) (rS v) 2479 [(0, .ref (gva E 200)), (1, .ref (gX E + 0)), (2, .ref (gX E + 559)), (3, .ref (gX E + 570)), (4, .ref (gX E + 571)), (5, .int x5)] [.int s0] := by
  refine g_istore [(6, .int s0), (0, .ref (gva E 200)), (1, .ref (gX E + 0)), (2, .ref (gX E + 559)), (3, .ref (gX E + 570)), (4, .ref (gX E + 571)), (5, .int x5)] dL_law_2479 (by decide) rfl ?_
  refine g_aload_n 3 dL_law_2481 rfl ?_
  refine g_aload_n 1 dL_law_2482 rfl ?_
  refine g_iload 6 dL_law_2483 rfl ?_
  refine g_iconst dL_law_2485 (1 : Int32) (by decide) ?_
  refine g_iadd dL_law_2486 ?_
  obtain ⟨h369, hp⟩ := hp
  refine g_sld hN hxs h369 dL_law_2487 ?_
  obtain ⟨h370, hp⟩ := hp
  refine g_callV (rest := []) s_L_334_X12 rfl (c_X12_projectedByRecursion (E := E) (d := d - 1)   (by omega) (xs (x5 + (1 : Int32)).toNatClampNeg) v h370) (by decide : kd 559 = (0, 9)) (show 559 < 572 by decide) rfl rfl (Nat.le_of_ble_eq_true rfl) (by omega) (by omega) (by omega) dL_law_2488 (adV ?_) axN
  refine g_room (k' := (322 * nf + 0)) (n' := (2566 * nf + 0)) (by omega) (by omega) ?_
  refine g_lv (lv' := [(0, .ref (gva E 200)), (1, .ref (gX E + 0)), (2, .ref (gX E + 559)), (3, .ref (gX E + 570)), (4, .ref (gX E + 571)), (5, .int x5), (6, .int s0)]) [1, 2, 3, 4, 5, 6, 0] rfl ?_
  exact w_L_law_2491 nf N xs hN hxs hd K28 PK28 hK28 x5 s0 ((f_X12_projectedByRecursion (xs (x5 + (1 : Int32)).toNatClampNeg) v).1) (f_X12_projectedByRecursion (xs (x5 + (1 : Int32)).toNatClampNeg) v).2 hp hQ
def f_L_law_2468 (N : Nat) (xs : Nat → Int32) (K28 : Int32 → gV → Int32 × gV)  (x5 : Int32) (v : gV) : Int32 × gV := f_L_law_2479 N xs K28 x5 ((f_L_projectedByRecursion (xs (x5 + (1 : Int32)).toNatClampNeg) v).1) (f_L_projectedByRecursion (xs (x5 + (1 : Int32)).toNatClampNeg) v).2
def p_L_law_2468 (N : Nat) (xs : Nat → Int32) (K28 : Int32 → gV → Int32 × gV)  (PK28 : Int32 → gV → Prop)  (x5 : Int32) (v : gV) : Prop := (vp_in (x5 + (1 : Int32)) N) ∧ ((p_L_projectedByRecursion (xs (x5 + (1 : Int32)).toNatClampNeg) v) ∧ (p_L_law_2479 N xs K28 PK28 x5 ((f_L_projectedByRecursion (xs (x5 + (1 : Int32)).toNatClampNeg) v).1) (f_L_projectedByRecursion (xs (x5 + (1 : Int32)).toNatClampNeg) v).2))
set_option maxHeartbeats 4000000 in
set_option maxRecDepth 100000 in
theorem w_L_law_2468 {E : gE} {d : Nat} {Q : gO → gS → Prop} (nf : Nat) (N : Nat) (xs : Nat → Int32) (hN : gva E 201 = N) (hxs : gxs E = xs) (hd : 16 ≤ d) (K28 : Int32 → gV → Int32 × gV)  (PK28 : Int32 → gV → Prop)  (hK28 : ∀ (x5 : Int32) (v : gV), PK28 x5 v → gqIV Q (K28 x5 v) → gG E m_L_law d Q (322 * nf) (2566 * nf) (rS v) 28 [(0, .ref (gva E 200)), (1, .ref (gX E + 0)), (2, .ref (gX E + 559)), (3, .ref (gX E + 570)), (4, .ref (gX E + 571)), (5, .int x5)] [])  (x5 : Int32) (v : gV) (hp : p_L_law_2468 N xs K28 PK28 x5 v) (hQ : gqIV Q (f_L_law_2468 N xs K28 x5 v)) : gG E m_L_law d Q (322 * nf + 1) (2566 * nf + 6) (rS v) 2468 [(0, .ref (gva E 200)), (1, .ref (gX E + 0)), (2, .ref (gX E + 559)), (3, .ref (gX E + 570)), (4, .ref (gX E + 571)), (5, .int x5)] [] := by
  refine g_aload_n 1 dL_law_2468 rfl ?_
  refine g_aload_n 0 dL_law_2469 rfl ?_
  refine g_iload 5 dL_law_2470 rfl ?_
  refine g_iconst dL_law_2472 (1 : Int32) (by decide) ?_
  refine g_iadd dL_law_2473 ?_
  obtain ⟨h367, hp⟩ := hp
  refine g_sld hN hxs h367 dL_law_2474 ?_
  refine g_aload_n 3 dL_law_2475 rfl ?_
  obtain ⟨h368, hp⟩ := hp
  refine g_callT (rest := []) s_L_332 rfl (c_L_projectedByRecursion (E := E) (d := d - 1)   (by omega) (xs (x5 + (1 : Int32)).toNatClampNeg) v h368) cqn rfl rfl (Nat.le_of_ble_eq_true rfl) (by omega) (by omega) (by omega) dL_law_2476 (adV ?_)
  refine g_room (k' := (322 * nf + 0)) (n' := (2566 * nf + 0)) (by omega) (by omega) ?_
  exact w_L_law_2479 nf N xs hN hxs hd K28 PK28 hK28 x5 ((f_L_projectedByRecursion (xs (x5 + (1 : Int32)).toNatClampNeg) v).1) (f_L_projectedByRecursion (xs (x5 + (1 : Int32)).toNatClampNeg) v).2 hp hQ
def f_L_law_2532 (N : Nat) (xs : Nat → Int32) (K28 : Int32 → gV → Int32 × gV)  (x5 : Int32) (s0 : Int32) (s1 : Int32) (v : gV) : Int32 × gV := if s1 = s0 then (f_L_law_3401 N xs K28 x5 v) else (((0 : Int32), v))
def p_L_law_2532 (N : Nat) (xs : Nat → Int32) (K28 : Int32 → gV → Int32 × gV)  (PK28 : Int32 → gV → Prop)  (x5 : Int32) (s0 : Int32) (s1 : Int32) (v : gV) : Prop := ((s1 = s0) → (p_L_law_3401 N xs K28 PK28 x5 v)) ∧ (¬ (s1 = s0) → (True))
set_option maxHeartbeats 4000000 in
set_option maxRecDepth 100000 in
theorem w_L_law_2532 {E : gE} {d : Nat} {Q : gO → gS → Prop} (nf : Nat) (N : Nat) (xs : Nat → Int32) (hN : gva E 201 = N) (hxs : gxs E = xs) (hd : 16 ≤ d) (K28 : Int32 → gV → Int32 × gV)  (PK28 : Int32 → gV → Prop)  (hK28 : ∀ (x5 : Int32) (v : gV), PK28 x5 v → gqIV Q (K28 x5 v) → gG E m_L_law d Q (322 * nf) (2566 * nf) (rS v) 28 [(0, .ref (gva E 200)), (1, .ref (gX E + 0)), (2, .ref (gX E + 559)), (3, .ref (gX E + 570)), (4, .ref (gX E + 571)), (5, .int x5)] [])  (x5 : Int32) (s0 : Int32) (s1 : Int32) (v : gV) (hp : p_L_law_2532 N xs K28 PK28 x5 s0 s1 v) (hQ : gqIV Q (f_L_law_2532 N xs K28 x5 s0 s1 v)) : gG E m_L_law d Q (322 * nf + 0) (2566 * nf + 0) (rS v) 2532 [(0, .ref (gva E 200)), (1, .ref (gX E + 0)), (2, .ref (gX E + 559)), (3, .ref (gX E + 570)), (4, .ref (gX E + 571)), (5, .int x5)] [.int s0, .int s1] := by
  refine g_icmp_eq 3401 dL_law_2532 (by decide) (fun h378 => ?_) (fun h378 => ?_)
  · have hQ := qp (P := gqIV Q) h378 hQ
    have hp := hp.1 h378
    refine g_room (k' := (322 * nf + 0)) (n' := (2566 * nf + 0)) (by omega) (by omega) ?_
    exact w_L_law_3401 nf N xs hN hxs hd K28 PK28 hK28 x5 v hp hQ
  · have hQ := qn (P := gqIV Q) h378 hQ
    have hp := hp.2 h378
    refine g_iconst dL_law_2535 (0 : Int32) (by decide) ?_
    exact g_zret rfl rfl dL_law_2536 hQ
def f_L_law_2524 (N : Nat) (xs : Nat → Int32) (K28 : Int32 → gV → Int32 × gV)  (x5 : Int32) (v : gV) : Int32 × gV := f_L_law_2532 N xs K28 x5 ((f_X12_reserve  v).1) (f_X11_reserve  v) (f_X12_reserve  v).2
def p_L_law_2524 (N : Nat) (xs : Nat → Int32) (K28 : Int32 → gV → Int32 × gV)  (PK28 : Int32 → gV → Prop)  (x5 : Int32) (v : gV) : Prop := (p_X11_reserve  v) ∧ ((p_X12_reserve  v) ∧ (p_L_law_2532 N xs K28 PK28 x5 ((f_X12_reserve  v).1) (f_X11_reserve  v) (f_X12_reserve  v).2))
set_option maxHeartbeats 4000000 in
set_option maxRecDepth 100000 in
theorem w_L_law_2524 {E : gE} {d : Nat} {Q : gO → gS → Prop} (nf : Nat) (N : Nat) (xs : Nat → Int32) (hN : gva E 201 = N) (hxs : gxs E = xs) (hd : 16 ≤ d) (K28 : Int32 → gV → Int32 × gV)  (PK28 : Int32 → gV → Prop)  (hK28 : ∀ (x5 : Int32) (v : gV), PK28 x5 v → gqIV Q (K28 x5 v) → gG E m_L_law d Q (322 * nf) (2566 * nf) (rS v) 28 [(0, .ref (gva E 200)), (1, .ref (gX E + 0)), (2, .ref (gX E + 559)), (3, .ref (gX E + 570)), (4, .ref (gX E + 571)), (5, .int x5)] [])  (x5 : Int32) (v : gV) (hp : p_L_law_2524 N xs K28 PK28 x5 v) (hQ : gqIV Q (f_L_law_2524 N xs K28 x5 v)) : gG E m_L_law d Q (322 * nf + 0) (2566 * nf + 0) (rS v) 2524 [(0, .ref (gva E 200)), (1, .ref (gX E + 0)), (2, .ref (gX E + 559)), (3, .ref (gX E + 570)), (4, .ref (gX E + 571)), (5, .int x5)] [] := by
  refine g_aload_n 1 dL_law_2524 rfl ?_
  obtain ⟨h376, hp⟩ := hp
  refine g_callV (rest := []) s_L_335_X11 rfl (c_X11_reserve (E := E) (d := d - 1)   (by omega)  v h376) (by decide : kd 0 = (0, 8)) (show 0 < 572 by decide) rfl rfl (Nat.le_of_ble_eq_true rfl) (by omega) (by omega) (by omega) dL_law_2525 (adV ?_) axN
  refine g_aload_n 2 dL_law_2528 rfl ?_
  obtain ⟨h377, hp⟩ := hp
  refine g_callV (rest := [.int ((f_X11_reserve  v))]) s_L_338_X12 rfl (c_X12_reserve (E := E) (d := d - 1)   (by omega)  v h377) (by decide : kd 559 = (0, 9)) (show 559 < 572 by decide) rfl rfl (Nat.le_of_ble_eq_true rfl) (by omega) (by omega) (by omega) dL_law_2529 (adV ?_) axN
  refine g_room (k' := (322 * nf + 0)) (n' := (2566 * nf + 0)) (by omega) (by omega) ?_
  exact w_L_law_2532 nf N xs hN hxs hd K28 PK28 hK28 x5 ((f_X12_reserve  v).1) (f_X11_reserve  v) (f_X12_reserve  v).2 hp hQ
def f_L_law_2545 (N : Nat) (xs : Nat → Int32) (K28 : Int32 → gV → Int32 × gV)  (x5 : Int32) (s0 : Int32) (s1 : Int32) (v : gV) : Int32 × gV := if s1 = s0 then (f_L_law_3401 N xs K28 x5 v) else (((0 : Int32), v))
def p_L_law_2545 (N : Nat) (xs : Nat → Int32) (K28 : Int32 → gV → Int32 × gV)  (PK28 : Int32 → gV → Prop)  (x5 : Int32) (s0 : Int32) (s1 : Int32) (v : gV) : Prop := ((s1 = s0) → (p_L_law_3401 N xs K28 PK28 x5 v)) ∧ (¬ (s1 = s0) → (True))
set_option maxHeartbeats 4000000 in
set_option maxRecDepth 100000 in
theorem w_L_law_2545 {E : gE} {d : Nat} {Q : gO → gS → Prop} (nf : Nat) (N : Nat) (xs : Nat → Int32) (hN : gva E 201 = N) (hxs : gxs E = xs) (hd : 16 ≤ d) (K28 : Int32 → gV → Int32 × gV)  (PK28 : Int32 → gV → Prop)  (hK28 : ∀ (x5 : Int32) (v : gV), PK28 x5 v → gqIV Q (K28 x5 v) → gG E m_L_law d Q (322 * nf) (2566 * nf) (rS v) 28 [(0, .ref (gva E 200)), (1, .ref (gX E + 0)), (2, .ref (gX E + 559)), (3, .ref (gX E + 570)), (4, .ref (gX E + 571)), (5, .int x5)] [])  (x5 : Int32) (s0 : Int32) (s1 : Int32) (v : gV) (hp : p_L_law_2545 N xs K28 PK28 x5 s0 s1 v) (hQ : gqIV Q (f_L_law_2545 N xs K28 x5 s0 s1 v)) : gG E m_L_law d Q (322 * nf + 0) (2566 * nf + 0) (rS v) 2545 [(0, .ref (gva E 200)), (1, .ref (gX E + 0)), (2, .ref (gX E + 559)), (3, .ref (gX E + 570)), (4, .ref (gX E + 571)), (5, .int x5)] [.int s0, .int s1] := by
  refine g_icmp_eq 3401 dL_law_2545 (by decide) (fun h382 => ?_) (fun h382 => ?_)
  · have hQ := qp (P := gqIV Q) h382 hQ
    have hp := hp.1 h382
    refine g_room (k' := (322 * nf + 0)) (n' := (2566 * nf + 0)) (by omega) (by omega) ?_
    exact w_L_law_3401 nf N xs hN hxs hd K28 PK28 hK28 x5 v hp hQ
  · have hQ := qn (P := gqIV Q) h382 hQ
    have hp := hp.2 h382
    refine g_iconst dL_law_2548 (0 : Int32) (by decide) ?_
    exact g_zret rfl rfl dL_law_2549 hQ
def f_L_law_2537 (N : Nat) (xs : Nat → Int32) (K28 : Int32 → gV → Int32 × gV)  (x5 : Int32) (v : gV) : Int32 × gV := f_L_law_2545 N xs K28 x5 ((f_X12_offerCount  v).1) (f_X11_offerCount  v) (f_X12_offerCount  v).2
def p_L_law_2537 (N : Nat) (xs : Nat → Int32) (K28 : Int32 → gV → Int32 × gV)  (PK28 : Int32 → gV → Prop)  (x5 : Int32) (v : gV) : Prop := (p_X11_offerCount  v) ∧ ((p_X12_offerCount  v) ∧ (p_L_law_2545 N xs K28 PK28 x5 ((f_X12_offerCount  v).1) (f_X11_offerCount  v) (f_X12_offerCount  v).2))
set_option maxHeartbeats 4000000 in
set_option maxRecDepth 100000 in
theorem w_L_law_2537 {E : gE} {d : Nat} {Q : gO → gS → Prop} (nf : Nat) (N : Nat) (xs : Nat → Int32) (hN : gva E 201 = N) (hxs : gxs E = xs) (hd : 16 ≤ d) (K28 : Int32 → gV → Int32 × gV)  (PK28 : Int32 → gV → Prop)  (hK28 : ∀ (x5 : Int32) (v : gV), PK28 x5 v → gqIV Q (K28 x5 v) → gG E m_L_law d Q (322 * nf) (2566 * nf) (rS v) 28 [(0, .ref (gva E 200)), (1, .ref (gX E + 0)), (2, .ref (gX E + 559)), (3, .ref (gX E + 570)), (4, .ref (gX E + 571)), (5, .int x5)] [])  (x5 : Int32) (v : gV) (hp : p_L_law_2537 N xs K28 PK28 x5 v) (hQ : gqIV Q (f_L_law_2537 N xs K28 x5 v)) : gG E m_L_law d Q (322 * nf + 0) (2566 * nf + 0) (rS v) 2537 [(0, .ref (gva E 200)), (1, .ref (gX E + 0)), (2, .ref (gX E + 559)), (3, .ref (gX E + 570)), (4, .ref (gX E + 571)), (5, .int x5)] [] := by
  refine g_aload_n 1 dL_law_2537 rfl ?_
  obtain ⟨h380, hp⟩ := hp
  refine g_callV (rest := []) s_L_339_X11 rfl (c_X11_offerCount (E := E) (d := d - 1)   (by omega)  v h380) (by decide : kd 0 = (0, 8)) (show 0 < 572 by decide) rfl rfl (Nat.le_of_ble_eq_true rfl) (by omega) (by omega) (by omega) dL_law_2538 (adV ?_) axN
  refine g_aload_n 2 dL_law_2541 rfl ?_
  obtain ⟨h381, hp⟩ := hp
  refine g_callV (rest := [.int ((f_X11_offerCount  v))]) s_L_342_X12 rfl (c_X12_offerCount (E := E) (d := d - 1)   (by omega)  v h381) (by decide : kd 559 = (0, 9)) (show 559 < 572 by decide) rfl rfl (Nat.le_of_ble_eq_true rfl) (by omega) (by omega) (by omega) dL_law_2542 (adV ?_) axN
  refine g_room (k' := (322 * nf + 0)) (n' := (2566 * nf + 0)) (by omega) (by omega) ?_
  exact w_L_law_2545 nf N xs hN hxs hd K28 PK28 hK28 x5 ((f_X12_offerCount  v).1) (f_X11_offerCount  v) (f_X12_offerCount  v).2 hp hQ
def f_L_law_2615 (N : Nat) (xs : Nat → Int32) (K28 : Int32 → gV → Int32 × gV)  (x5 : Int32) (v : gV) : Int32 × gV := f_L_law_3401 N xs K28 x5 v
def p_L_law_2615 (N : Nat) (xs : Nat → Int32) (K28 : Int32 → gV → Int32 × gV)  (PK28 : Int32 → gV → Prop)  (x5 : Int32) (v : gV) : Prop := p_L_law_3401 N xs K28 PK28 x5 v
set_option maxHeartbeats 4000000 in
set_option maxRecDepth 100000 in
theorem w_L_law_2615 {E : gE} {d : Nat} {Q : gO → gS → Prop} (nf : Nat) (N : Nat) (xs : Nat → Int32) (hN : gva E 201 = N) (hxs : gxs E = xs) (hd : 16 ≤ d) (K28 : Int32 → gV → Int32 × gV)  (PK28 : Int32 → gV → Prop)  (hK28 : ∀ (x5 : Int32) (v : gV), PK28 x5 v → gqIV Q (K28 x5 v) → gG E m_L_law d Q (322 * nf) (2566 * nf) (rS v) 28 [(0, .ref (gva E 200)), (1, .ref (gX E + 0)), (2, .ref (gX E + 559)), (3, .ref (gX E + 570)), (4, .ref (gX E + 571)), (5, .int x5)] [])  (x5 : Int32) (v : gV) (hp : p_L_law_2615 N xs K28 PK28 x5 v) (hQ : gqIV Q (f_L_law_2615 N xs K28 x5 v)) : gG E m_L_law d Q (322 * nf + 0) (2566 * nf + 0) (rS v) 2615 [(0, .ref (gva E 200)), (1, .ref (gX E + 0)), (2, .ref (gX E + 559)), (3, .ref (gX E + 570)), (4, .ref (gX E + 571)), (5, .int x5)] [] := by
  refine g_goto 3401 dL_law_2615 (by decide) ?_
  refine g_room (k' := (322 * nf + 0)) (n' := (2566 * nf + 0)) (by omega) (by omega) ?_
  exact w_L_law_3401 nf N xs hN hxs hd K28 PK28 hK28 x5 v hp hQ
def f_L_law_2585 (N : Nat) (xs : Nat → Int32) (K28 : Int32 → gV → Int32 × gV)  (x5 : Int32) (x6 : Int32) (s0 : Int32) (v : gV) : Int32 × gV := if (f_X12_thrown  v) = x6 then (if x6 = 0 then (if (lg_cmp (v.2.1 570 (0 : Int32).toNatClampNeg) s0.toInt64) = 0 then (f_L_law_2615 N xs K28 x5 v) else (((0 : Int32), v))) else (f_L_law_2615 N xs K28 x5 v)) else (((0 : Int32), v))
def p_L_law_2585 (N : Nat) (xs : Nat → Int32) (K28 : Int32 → gV → Int32 × gV)  (PK28 : Int32 → gV → Prop)  (x5 : Int32) (x6 : Int32) (s0 : Int32) (v : gV) : Prop := (p_X12_thrown  v) ∧ ((((f_X12_thrown  v) = x6) → (((x6 = 0) → ((((lg_cmp (v.2.1 570 (0 : Int32).toNatClampNeg) s0.toInt64) = 0) → (p_L_law_2615 N xs K28 PK28 x5 v)) ∧ (¬ ((lg_cmp (v.2.1 570 (0 : Int32).toNatClampNeg) s0.toInt64) = 0) → (True)))) ∧ (¬ (x6 = 0) → (p_L_law_2615 N xs K28 PK28 x5 v)))) ∧ (¬ ((f_X12_thrown  v) = x6) → (True)))
set_option maxHeartbeats 4000000 in
set_option maxRecDepth 100000 in
theorem w_L_law_2585 {E : gE} {d : Nat} {Q : gO → gS → Prop} (nf : Nat) (N : Nat) (xs : Nat → Int32) (hN : gva E 201 = N) (hxs : gxs E = xs) (hd : 16 ≤ d) (K28 : Int32 → gV → Int32 × gV)  (PK28 : Int32 → gV → Prop)  (hK28 : ∀ (x5 : Int32) (v : gV), PK28 x5 v → gqIV Q (K28 x5 v) → gG E m_L_law d Q (322 * nf) (2566 * nf) (rS v) 28 [(0, .ref (gva E 200)), (1, .ref (gX E + 0)), (2, .ref (gX E + 559)), (3, .ref (gX E + 570)), (4, .ref (gX E + 571)), (5, .int x5)] [])  (x5 : Int32) (x6 : Int32) (s0 : Int32) (v : gV) (hp : p_L_law_2585 N xs K28 PK28 x5 x6 s0 v) (hQ : gqIV Q (f_L_law_2585 N xs K28 x5 x6 s0 v)) : gG E m_L_law d Q (322 * nf + 0) (2566 * nf + 0) (rS v) 2585 [(0, .ref (gva E 200)), (1, .ref (gX E + 0)), (2, .ref (gX E + 559)), (3, .ref (gX E + 570)), (4, .ref (gX E + 571)), (5, .int x5), (6, .int x6)] [.int s0] := by
  refine g_istore [(7, .int s0), (0, .ref (gva E 200)), (1, .ref (gX E + 0)), (2, .ref (gX E + 559)), (3, .ref (gX E + 570)), (4, .ref (gX E + 571)), (5, .int x5), (6, .int x6)] dL_law_2585 (by decide) rfl ?_
  refine g_aload_n 3 dL_law_2587 rfl ?_
  obtain ⟨h390, hp⟩ := hp
  refine g_callV (rest := []) s_L_193_X12 rfl (c_X12_thrown (E := E) (d := d - 1)   (by omega)  v h390) (by decide : kd 559 = (0, 9)) (show 559 < 572 by decide) rfl rfl (Nat.le_of_ble_eq_true rfl) (by omega) (by omega) (by omega) dL_law_2588 (adV ?_) axN
  refine g_iload 7 dL_law_2591 rfl ?_
  refine g_icmp_eq 2598 dL_law_2593 (by decide) (fun h391 => ?_) (fun h391 => ?_)
  · have hQ := qp (P := gqIV Q) h391 hQ
    have hp := hp.1 h391
    refine g_iload 7 dL_law_2598 rfl ?_
    refine g_if_ne 2615 dL_law_2600 (by decide) (fun h392 => ?_) (fun h392 => ?_)
    · have hQ := qn (P := gqIV Q) h392 hQ
      have hp := hp.2 h392
      refine g_room (k' := (322 * nf + 0)) (n' := (2566 * nf + 0)) (by omega) (by omega) ?_
      refine g_lv (lv' := [(0, .ref (gva E 200)), (1, .ref (gX E + 0)), (2, .ref (gX E + 559)), (3, .ref (gX E + 570)), (4, .ref (gX E + 571)), (5, .int x5)]) [1, 2, 3, 4, 5, 6] rfl ?_
      exact w_L_law_2615 nf N xs hN hxs hd K28 PK28 hK28 x5 v hp hQ
    · have hQ := qp (P := gqIV Q) h392 hQ
      have hp := hp.1 h392
      refine g_aload_n 4 dL_law_2603 rfl ?_
      refine g_iconst dL_law_2604 (0 : Int32) (by decide) ?_
      refine g_lald (by decide : kd 570 = (3, 1)) (show 570 < 572 by decide) (show ¬ (_ ∨ _) by decide) dL_law_2605 ?_
      refine g_iload 0 dL_law_2606 rfl ?_
      refine g_i2l dL_law_2608 ?_
      refine g_lcmp dL_law_2609 ?_
      refine g_if_eq 2615 dL_law_2610 (by decide) (fun h393 => ?_) (fun h393 => ?_)
      · have hQ := qp (P := gqIV Q) h393 hQ
        have hp := hp.1 h393
        refine g_room (k' := (322 * nf + 0)) (n' := (2566 * nf + 0)) (by omega) (by omega) ?_
        refine g_lv (lv' := [(0, .ref (gva E 200)), (1, .ref (gX E + 0)), (2, .ref (gX E + 559)), (3, .ref (gX E + 570)), (4, .ref (gX E + 571)), (5, .int x5)]) [1, 2, 3, 4, 5, 6] rfl ?_
        exact w_L_law_2615 nf N xs hN hxs hd K28 PK28 hK28 x5 v hp hQ
      · have hQ := qn (P := gqIV Q) h393 hQ
        have hp := hp.2 h393
        refine g_iconst dL_law_2613 (0 : Int32) (by decide) ?_
        exact g_zret rfl rfl dL_law_2614 hQ
  · have hQ := qn (P := gqIV Q) h391 hQ
    have hp := hp.2 h391
    refine g_iconst dL_law_2596 (0 : Int32) (by decide) ?_
    exact g_zret rfl rfl dL_law_2597 hQ
def f_L_law_2567 (N : Nat) (xs : Nat → Int32) (K28 : Int32 → gV → Int32 × gV)  (x5 : Int32) (s0 : Int32) (v : gV) : Int32 × gV := f_L_law_2585 N xs K28 x5 s0 ((f_X12_cheapestCover (xs (x5 + (1 : Int32)).toNatClampNeg) (xs (x5 + (2 : Int32)).toNatClampNeg) v).1) (f_X12_cheapestCover (xs (x5 + (1 : Int32)).toNatClampNeg) (xs (x5 + (2 : Int32)).toNatClampNeg) v).2
def p_L_law_2567 (N : Nat) (xs : Nat → Int32) (K28 : Int32 → gV → Int32 × gV)  (PK28 : Int32 → gV → Prop)  (x5 : Int32) (s0 : Int32) (v : gV) : Prop := (vp_in (x5 + (1 : Int32)) N) ∧ ((vp_in (x5 + (2 : Int32)) N) ∧ ((p_X12_cheapestCover (xs (x5 + (1 : Int32)).toNatClampNeg) (xs (x5 + (2 : Int32)).toNatClampNeg) v) ∧ (p_L_law_2585 N xs K28 PK28 x5 s0 ((f_X12_cheapestCover (xs (x5 + (1 : Int32)).toNatClampNeg) (xs (x5 + (2 : Int32)).toNatClampNeg) v).1) (f_X12_cheapestCover (xs (x5 + (1 : Int32)).toNatClampNeg) (xs (x5 + (2 : Int32)).toNatClampNeg) v).2)))
set_option maxHeartbeats 4000000 in
set_option maxRecDepth 100000 in
theorem w_L_law_2567 {E : gE} {d : Nat} {Q : gO → gS → Prop} (nf : Nat) (N : Nat) (xs : Nat → Int32) (hN : gva E 201 = N) (hxs : gxs E = xs) (hd : 16 ≤ d) (K28 : Int32 → gV → Int32 × gV)  (PK28 : Int32 → gV → Prop)  (hK28 : ∀ (x5 : Int32) (v : gV), PK28 x5 v → gqIV Q (K28 x5 v) → gG E m_L_law d Q (322 * nf) (2566 * nf) (rS v) 28 [(0, .ref (gva E 200)), (1, .ref (gX E + 0)), (2, .ref (gX E + 559)), (3, .ref (gX E + 570)), (4, .ref (gX E + 571)), (5, .int x5)] [])  (x5 : Int32) (s0 : Int32) (v : gV) (hp : p_L_law_2567 N xs K28 PK28 x5 s0 v) (hQ : gqIV Q (f_L_law_2567 N xs K28 x5 s0 v)) : gG E m_L_law d Q (322 * nf + 0) (2566 * nf + 0) (rS v) 2567 [(0, .ref (gva E 200)), (1, .ref (gX E + 0)), (2, .ref (gX E + 559)), (3, .ref (gX E + 570)), (4, .ref (gX E + 571)), (5, .int x5)] [.int s0] := by
  refine g_istore [(6, .int s0), (0, .ref (gva E 200)), (1, .ref (gX E + 0)), (2, .ref (gX E + 559)), (3, .ref (gX E + 570)), (4, .ref (gX E + 571)), (5, .int x5)] dL_law_2567 (by decide) rfl ?_
  refine g_aload_n 3 dL_law_2569 rfl ?_
  refine g_aload_n 1 dL_law_2570 rfl ?_
  refine g_iload 6 dL_law_2571 rfl ?_
  refine g_iconst dL_law_2573 (1 : Int32) (by decide) ?_
  refine g_iadd dL_law_2574 ?_
  obtain ⟨h387, hp⟩ := hp
  refine g_sld hN hxs h387 dL_law_2575 ?_
  refine g_aload_n 1 dL_law_2576 rfl ?_
  refine g_iload 6 dL_law_2577 rfl ?_
  refine g_iconst dL_law_2579 (2 : Int32) (by decide) ?_
  refine g_iadd dL_law_2580 ?_
  obtain ⟨h388, hp⟩ := hp
  refine g_sld hN hxs h388 dL_law_2581 ?_
  obtain ⟨h389, hp⟩ := hp
  refine g_callV (rest := []) s_L_345_X12 rfl (c_X12_cheapestCover (E := E) (d := d - 1)   (by omega) (xs (x5 + (1 : Int32)).toNatClampNeg) (xs (x5 + (2 : Int32)).toNatClampNeg) v h389) (by decide : kd 559 = (0, 9)) (show 559 < 572 by decide) rfl rfl (Nat.le_of_ble_eq_true rfl) (by omega) (by omega) (by omega) dL_law_2582 (adV ?_) axN
  refine g_room (k' := (322 * nf + 0)) (n' := (2566 * nf + 0)) (by omega) (by omega) ?_
  refine g_lv (lv' := [(0, .ref (gva E 200)), (1, .ref (gX E + 0)), (2, .ref (gX E + 559)), (3, .ref (gX E + 570)), (4, .ref (gX E + 571)), (5, .int x5), (6, .int s0)]) [1, 2, 3, 4, 5, 6, 0] rfl ?_
  exact w_L_law_2585 nf N xs hN hxs hd K28 PK28 hK28 x5 s0 ((f_X12_cheapestCover (xs (x5 + (1 : Int32)).toNatClampNeg) (xs (x5 + (2 : Int32)).toNatClampNeg) v).1) (f_X12_cheapestCover (xs (x5 + (1 : Int32)).toNatClampNeg) (xs (x5 + (2 : Int32)).toNatClampNeg) v).2 hp hQ
def f_L_law_2550 (N : Nat) (xs : Nat → Int32) (K28 : Int32 → gV → Int32 × gV)  (x5 : Int32) (v : gV) : Int32 × gV := f_L_law_2567 N xs K28 x5 ((f_L_cheapestCover (xs (x5 + (1 : Int32)).toNatClampNeg) (xs (x5 + (2 : Int32)).toNatClampNeg) v).1) (f_L_cheapestCover (xs (x5 + (1 : Int32)).toNatClampNeg) (xs (x5 + (2 : Int32)).toNatClampNeg) v).2
def p_L_law_2550 (N : Nat) (xs : Nat → Int32) (K28 : Int32 → gV → Int32 × gV)  (PK28 : Int32 → gV → Prop)  (x5 : Int32) (v : gV) : Prop := (vp_in (x5 + (1 : Int32)) N) ∧ ((vp_in (x5 + (2 : Int32)) N) ∧ ((p_L_cheapestCover (xs (x5 + (1 : Int32)).toNatClampNeg) (xs (x5 + (2 : Int32)).toNatClampNeg) v) ∧ (p_L_law_2567 N xs K28 PK28 x5 ((f_L_cheapestCover (xs (x5 + (1 : Int32)).toNatClampNeg) (xs (x5 + (2 : Int32)).toNatClampNeg) v).1) (f_L_cheapestCover (xs (x5 + (1 : Int32)).toNatClampNeg) (xs (x5 + (2 : Int32)).toNatClampNeg) v).2)))
set_option maxHeartbeats 4000000 in
set_option maxRecDepth 100000 in
theorem w_L_law_2550 {E : gE} {d : Nat} {Q : gO → gS → Prop} (nf : Nat) (N : Nat) (xs : Nat → Int32) (hN : gva E 201 = N) (hxs : gxs E = xs) (hd : 16 ≤ d) (K28 : Int32 → gV → Int32 × gV)  (PK28 : Int32 → gV → Prop)  (hK28 : ∀ (x5 : Int32) (v : gV), PK28 x5 v → gqIV Q (K28 x5 v) → gG E m_L_law d Q (322 * nf) (2566 * nf) (rS v) 28 [(0, .ref (gva E 200)), (1, .ref (gX E + 0)), (2, .ref (gX E + 559)), (3, .ref (gX E + 570)), (4, .ref (gX E + 571)), (5, .int x5)] [])  (x5 : Int32) (v : gV) (hp : p_L_law_2550 N xs K28 PK28 x5 v) (hQ : gqIV Q (f_L_law_2550 N xs K28 x5 v)) : gG E m_L_law d Q (322 * nf + 3) (2566 * nf + 18) (rS v) 2550 [(0, .ref (gva E 200)), (1, .ref (gX E + 0)), (2, .ref (gX E + 559)), (3, .ref (gX E + 570)), (4, .ref (gX E + 571)), (5, .int x5)] [] := by
  refine g_aload_n 1 dL_law_2550 rfl ?_
  refine g_aload_n 0 dL_law_2551 rfl ?_
  refine g_iload 5 dL_law_2552 rfl ?_
  refine g_iconst dL_law_2554 (1 : Int32) (by decide) ?_
  refine g_iadd dL_law_2555 ?_
  obtain ⟨h384, hp⟩ := hp
  refine g_sld hN hxs h384 dL_law_2556 ?_
  refine g_aload_n 0 dL_law_2557 rfl ?_
  refine g_iload 5 dL_law_2558 rfl ?_
  refine g_iconst dL_law_2560 (2 : Int32) (by decide) ?_
  refine g_iadd dL_law_2561 ?_
  obtain ⟨h385, hp⟩ := hp
  refine g_sld hN hxs h385 dL_law_2562 ?_
  refine g_aload_n 3 dL_law_2563 rfl ?_
  obtain ⟨h386, hp⟩ := hp
  refine g_callT (rest := []) s_L_343 rfl (c_L_cheapestCover (E := E) (d := d - 1)   (by omega) (xs (x5 + (1 : Int32)).toNatClampNeg) (xs (x5 + (2 : Int32)).toNatClampNeg) v h386) cqn rfl rfl (Nat.le_of_ble_eq_true rfl) (by omega) (by omega) (by omega) dL_law_2564 (adV ?_)
  refine g_room (k' := (322 * nf + 0)) (n' := (2566 * nf + 0)) (by omega) (by omega) ?_
  exact w_L_law_2567 nf N xs hN hxs hd K28 PK28 hK28 x5 ((f_L_cheapestCover (xs (x5 + (1 : Int32)).toNatClampNeg) (xs (x5 + (2 : Int32)).toNatClampNeg) v).1) (f_L_cheapestCover (xs (x5 + (1 : Int32)).toNatClampNeg) (xs (x5 + (2 : Int32)).toNatClampNeg) v).2 hp hQ
def f_L_law_2683 (N : Nat) (xs : Nat → Int32) (K28 : Int32 → gV → Int32 × gV)  (x5 : Int32) (v : gV) : Int32 × gV := f_L_law_3401 N xs K28 x5 v
def p_L_law_2683 (N : Nat) (xs : Nat → Int32) (K28 : Int32 → gV → Int32 × gV)  (PK28 : Int32 → gV → Prop)  (x5 : Int32) (v : gV) : Prop := p_L_law_3401 N xs K28 PK28 x5 v
set_option maxHeartbeats 4000000 in
set_option maxRecDepth 100000 in
theorem w_L_law_2683 {E : gE} {d : Nat} {Q : gO → gS → Prop} (nf : Nat) (N : Nat) (xs : Nat → Int32) (hN : gva E 201 = N) (hxs : gxs E = xs) (hd : 16 ≤ d) (K28 : Int32 → gV → Int32 × gV)  (PK28 : Int32 → gV → Prop)  (hK28 : ∀ (x5 : Int32) (v : gV), PK28 x5 v → gqIV Q (K28 x5 v) → gG E m_L_law d Q (322 * nf) (2566 * nf) (rS v) 28 [(0, .ref (gva E 200)), (1, .ref (gX E + 0)), (2, .ref (gX E + 559)), (3, .ref (gX E + 570)), (4, .ref (gX E + 571)), (5, .int x5)] [])  (x5 : Int32) (v : gV) (hp : p_L_law_2683 N xs K28 PK28 x5 v) (hQ : gqIV Q (f_L_law_2683 N xs K28 x5 v)) : gG E m_L_law d Q (322 * nf + 0) (2566 * nf + 0) (rS v) 2683 [(0, .ref (gva E 200)), (1, .ref (gX E + 0)), (2, .ref (gX E + 559)), (3, .ref (gX E + 570)), (4, .ref (gX E + 571)), (5, .int x5)] [] := by
  refine g_goto 3401 dL_law_2683 (by decide) ?_
  refine g_room (k' := (322 * nf + 0)) (n' := (2566 * nf + 0)) (by omega) (by omega) ?_
  exact w_L_law_3401 nf N xs hN hxs hd K28 PK28 hK28 x5 v hp hQ
def f_L_law_2653 (N : Nat) (xs : Nat → Int32) (K28 : Int32 → gV → Int32 × gV)  (x5 : Int32) (x6 : Int32) (s0 : Int32) (v : gV) : Int32 × gV := if (f_X12_thrown  v) = x6 then (if x6 = 0 then (if (lg_cmp (v.2.1 570 (0 : Int32).toNatClampNeg) s0.toInt64) = 0 then (f_L_law_2683 N xs K28 x5 v) else (((0 : Int32), v))) else (f_L_law_2683 N xs K28 x5 v)) else (((0 : Int32), v))
def p_L_law_2653 (N : Nat) (xs : Nat → Int32) (K28 : Int32 → gV → Int32 × gV)  (PK28 : Int32 → gV → Prop)  (x5 : Int32) (x6 : Int32) (s0 : Int32) (v : gV) : Prop := (p_X12_thrown  v) ∧ ((((f_X12_thrown  v) = x6) → (((x6 = 0) → ((((lg_cmp (v.2.1 570 (0 : Int32).toNatClampNeg) s0.toInt64) = 0) → (p_L_law_2683 N xs K28 PK28 x5 v)) ∧ (¬ ((lg_cmp (v.2.1 570 (0 : Int32).toNatClampNeg) s0.toInt64) = 0) → (True)))) ∧ (¬ (x6 = 0) → (p_L_law_2683 N xs K28 PK28 x5 v)))) ∧ (¬ ((f_X12_thrown  v) = x6) → (True)))
set_option maxHeartbeats 4000000 in
set_option maxRecDepth 100000 in
theorem w_L_law_2653 {E : gE} {d : Nat} {Q : gO → gS → Prop} (nf : Nat) (N : Nat) (xs : Nat → Int32) (hN : gva E 201 = N) (hxs : gxs E = xs) (hd : 16 ≤ d) (K28 : Int32 → gV → Int32 × gV)  (PK28 : Int32 → gV → Prop)  (hK28 : ∀ (x5 : Int32) (v : gV), PK28 x5 v → gqIV Q (K28 x5 v) → gG E m_L_law d Q (322 * nf) (2566 * nf) (rS v) 28 [(0, .ref (gva E 200)), (1, .ref (gX E + 0)), (2, .ref (gX E + 559)), (3, .ref (gX E + 570)), (4, .ref (gX E + 571)), (5, .int x5)] [])  (x5 : Int32) (x6 : Int32) (s0 : Int32) (v : gV) (hp : p_L_law_2653 N xs K28 PK28 x5 x6 s0 v) (hQ : gqIV Q (f_L_law_2653 N xs K28 x5 x6 s0 v)) : gG E m_L_law d Q (322 * nf + 0) (2566 * nf + 0) (rS v) 2653 [(0, .ref (gva E 200)), (1, .ref (gX E + 0)), (2, .ref (gX E + 559)), (3, .ref (gX E + 570)), (4, .ref (gX E + 571)), (5, .int x5), (6, .int x6)] [.int s0] := by
  refine g_istore [(7, .int s0), (0, .ref (gva E 200)), (1, .ref (gX E + 0)), (2, .ref (gX E + 559)), (3, .ref (gX E + 570)), (4, .ref (gX E + 571)), (5, .int x5), (6, .int x6)] dL_law_2653 (by decide) rfl ?_
  refine g_aload_n 3 dL_law_2655 rfl ?_
  obtain ⟨h401, hp⟩ := hp
  refine g_callV (rest := []) s_L_193_X12 rfl (c_X12_thrown (E := E) (d := d - 1)   (by omega)  v h401) (by decide : kd 559 = (0, 9)) (show 559 < 572 by decide) rfl rfl (Nat.le_of_ble_eq_true rfl) (by omega) (by omega) (by omega) dL_law_2656 (adV ?_) axN
  refine g_iload 7 dL_law_2659 rfl ?_
  refine g_icmp_eq 2666 dL_law_2661 (by decide) (fun h402 => ?_) (fun h402 => ?_)
  · have hQ := qp (P := gqIV Q) h402 hQ
    have hp := hp.1 h402
    refine g_iload 7 dL_law_2666 rfl ?_
    refine g_if_ne 2683 dL_law_2668 (by decide) (fun h403 => ?_) (fun h403 => ?_)
    · have hQ := qn (P := gqIV Q) h403 hQ
      have hp := hp.2 h403
      refine g_room (k' := (322 * nf + 0)) (n' := (2566 * nf + 0)) (by omega) (by omega) ?_
      refine g_lv (lv' := [(0, .ref (gva E 200)), (1, .ref (gX E + 0)), (2, .ref (gX E + 559)), (3, .ref (gX E + 570)), (4, .ref (gX E + 571)), (5, .int x5)]) [1, 2, 3, 4, 5, 6] rfl ?_
      exact w_L_law_2683 nf N xs hN hxs hd K28 PK28 hK28 x5 v hp hQ
    · have hQ := qp (P := gqIV Q) h403 hQ
      have hp := hp.1 h403
      refine g_aload_n 4 dL_law_2671 rfl ?_
      refine g_iconst dL_law_2672 (0 : Int32) (by decide) ?_
      refine g_lald (by decide : kd 570 = (3, 1)) (show 570 < 572 by decide) (show ¬ (_ ∨ _) by decide) dL_law_2673 ?_
      refine g_iload 0 dL_law_2674 rfl ?_
      refine g_i2l dL_law_2676 ?_
      refine g_lcmp dL_law_2677 ?_
      refine g_if_eq 2683 dL_law_2678 (by decide) (fun h404 => ?_) (fun h404 => ?_)
      · have hQ := qp (P := gqIV Q) h404 hQ
        have hp := hp.1 h404
        refine g_room (k' := (322 * nf + 0)) (n' := (2566 * nf + 0)) (by omega) (by omega) ?_
        refine g_lv (lv' := [(0, .ref (gva E 200)), (1, .ref (gX E + 0)), (2, .ref (gX E + 559)), (3, .ref (gX E + 570)), (4, .ref (gX E + 571)), (5, .int x5)]) [1, 2, 3, 4, 5, 6] rfl ?_
        exact w_L_law_2683 nf N xs hN hxs hd K28 PK28 hK28 x5 v hp hQ
      · have hQ := qn (P := gqIV Q) h404 hQ
        have hp := hp.2 h404
        refine g_iconst dL_law_2681 (0 : Int32) (by decide) ?_
        exact g_zret rfl rfl dL_law_2682 hQ
  · have hQ := qn (P := gqIV Q) h402 hQ
    have hp := hp.2 h402
    refine g_iconst dL_law_2664 (0 : Int32) (by decide) ?_
    exact g_zret rfl rfl dL_law_2665 hQ
def f_L_law_2635 (N : Nat) (xs : Nat → Int32) (K28 : Int32 → gV → Int32 × gV)  (x5 : Int32) (s0 : Int32) (v : gV) : Int32 × gV := f_L_law_2653 N xs K28 x5 s0 ((f_X12_cheapestCoverBySets (xs (x5 + (1 : Int32)).toNatClampNeg) (xs (x5 + (2 : Int32)).toNatClampNeg) v).1) (f_X12_cheapestCoverBySets (xs (x5 + (1 : Int32)).toNatClampNeg) (xs (x5 + (2 : Int32)).toNatClampNeg) v).2
def p_L_law_2635 (N : Nat) (xs : Nat → Int32) (K28 : Int32 → gV → Int32 × gV)  (PK28 : Int32 → gV → Prop)  (x5 : Int32) (s0 : Int32) (v : gV) : Prop := (vp_in (x5 + (1 : Int32)) N) ∧ ((vp_in (x5 + (2 : Int32)) N) ∧ ((p_X12_cheapestCoverBySets (xs (x5 + (1 : Int32)).toNatClampNeg) (xs (x5 + (2 : Int32)).toNatClampNeg) v) ∧ (p_L_law_2653 N xs K28 PK28 x5 s0 ((f_X12_cheapestCoverBySets (xs (x5 + (1 : Int32)).toNatClampNeg) (xs (x5 + (2 : Int32)).toNatClampNeg) v).1) (f_X12_cheapestCoverBySets (xs (x5 + (1 : Int32)).toNatClampNeg) (xs (x5 + (2 : Int32)).toNatClampNeg) v).2)))
set_option maxHeartbeats 4000000 in
set_option maxRecDepth 100000 in
theorem w_L_law_2635 {E : gE} {d : Nat} {Q : gO → gS → Prop} (nf : Nat) (N : Nat) (xs : Nat → Int32) (hN : gva E 201 = N) (hxs : gxs E = xs) (hd : 16 ≤ d) (K28 : Int32 → gV → Int32 × gV)  (PK28 : Int32 → gV → Prop)  (hK28 : ∀ (x5 : Int32) (v : gV), PK28 x5 v → gqIV Q (K28 x5 v) → gG E m_L_law d Q (322 * nf) (2566 * nf) (rS v) 28 [(0, .ref (gva E 200)), (1, .ref (gX E + 0)), (2, .ref (gX E + 559)), (3, .ref (gX E + 570)), (4, .ref (gX E + 571)), (5, .int x5)] [])  (x5 : Int32) (s0 : Int32) (v : gV) (hp : p_L_law_2635 N xs K28 PK28 x5 s0 v) (hQ : gqIV Q (f_L_law_2635 N xs K28 x5 s0 v)) : gG E m_L_law d Q (322 * nf + 0) (2566 * nf + 0) (rS v) 2635 [(0, .ref (gva E 200)), (1, .ref (gX E + 0)), (2, .ref (gX E + 559)), (3, .ref (gX E + 570)), (4, .ref (gX E + 571)), (5, .int x5)] [.int s0] := by
  refine g_istore [(6, .int s0), (0, .ref (gva E 200)), (1, .ref (gX E + 0)), (2, .ref (gX E + 559)), (3, .ref (gX E + 570)), (4, .ref (gX E + 571)), (5, .int x5)] dL_law_2635 (by decide) rfl ?_
  refine g_aload_n 3 dL_law_2637 rfl ?_
  refine g_aload_n 1 dL_law_2638 rfl ?_
  refine g_iload 6 dL_law_2639 rfl ?_
  refine g_iconst dL_law_2641 (1 : Int32) (by decide) ?_
  refine g_iadd dL_law_2642 ?_
  obtain ⟨h398, hp⟩ := hp
  refine g_sld hN hxs h398 dL_law_2643 ?_
  refine g_aload_n 1 dL_law_2644 rfl ?_
  refine g_iload 6 dL_law_2645 rfl ?_
  refine g_iconst dL_law_2647 (2 : Int32) (by decide) ?_
  refine g_iadd dL_law_2648 ?_
  obtain ⟨h399, hp⟩ := hp
  refine g_sld hN hxs h399 dL_law_2649 ?_
  obtain ⟨h400, hp⟩ := hp
  refine g_callV (rest := []) s_L_348_X12 rfl (c_X12_cheapestCoverBySets (E := E) (d := d - 1)   (by omega) (xs (x5 + (1 : Int32)).toNatClampNeg) (xs (x5 + (2 : Int32)).toNatClampNeg) v h400) (by decide : kd 559 = (0, 9)) (show 559 < 572 by decide) rfl rfl (Nat.le_of_ble_eq_true rfl) (by omega) (by omega) (by omega) dL_law_2650 (adV ?_) axN
  refine g_room (k' := (322 * nf + 0)) (n' := (2566 * nf + 0)) (by omega) (by omega) ?_
  refine g_lv (lv' := [(0, .ref (gva E 200)), (1, .ref (gX E + 0)), (2, .ref (gX E + 559)), (3, .ref (gX E + 570)), (4, .ref (gX E + 571)), (5, .int x5), (6, .int s0)]) [1, 2, 3, 4, 5, 6, 0] rfl ?_
  exact w_L_law_2653 nf N xs hN hxs hd K28 PK28 hK28 x5 s0 ((f_X12_cheapestCoverBySets (xs (x5 + (1 : Int32)).toNatClampNeg) (xs (x5 + (2 : Int32)).toNatClampNeg) v).1) (f_X12_cheapestCoverBySets (xs (x5 + (1 : Int32)).toNatClampNeg) (xs (x5 + (2 : Int32)).toNatClampNeg) v).2 hp hQ
def f_L_law_2618 (N : Nat) (xs : Nat → Int32) (K28 : Int32 → gV → Int32 × gV)  (x5 : Int32) (v : gV) : Int32 × gV := f_L_law_2635 N xs K28 x5 ((f_L_cheapestCoverBySets (xs (x5 + (1 : Int32)).toNatClampNeg) (xs (x5 + (2 : Int32)).toNatClampNeg) v).1) (f_L_cheapestCoverBySets (xs (x5 + (1 : Int32)).toNatClampNeg) (xs (x5 + (2 : Int32)).toNatClampNeg) v).2
def p_L_law_2618 (N : Nat) (xs : Nat → Int32) (K28 : Int32 → gV → Int32 × gV)  (PK28 : Int32 → gV → Prop)  (x5 : Int32) (v : gV) : Prop := (vp_in (x5 + (1 : Int32)) N) ∧ ((vp_in (x5 + (2 : Int32)) N) ∧ ((p_L_cheapestCoverBySets (xs (x5 + (1 : Int32)).toNatClampNeg) (xs (x5 + (2 : Int32)).toNatClampNeg) v) ∧ (p_L_law_2635 N xs K28 PK28 x5 ((f_L_cheapestCoverBySets (xs (x5 + (1 : Int32)).toNatClampNeg) (xs (x5 + (2 : Int32)).toNatClampNeg) v).1) (f_L_cheapestCoverBySets (xs (x5 + (1 : Int32)).toNatClampNeg) (xs (x5 + (2 : Int32)).toNatClampNeg) v).2)))
set_option maxHeartbeats 4000000 in
set_option maxRecDepth 100000 in
theorem w_L_law_2618 {E : gE} {d : Nat} {Q : gO → gS → Prop} (nf : Nat) (N : Nat) (xs : Nat → Int32) (hN : gva E 201 = N) (hxs : gxs E = xs) (hd : 16 ≤ d) (K28 : Int32 → gV → Int32 × gV)  (PK28 : Int32 → gV → Prop)  (hK28 : ∀ (x5 : Int32) (v : gV), PK28 x5 v → gqIV Q (K28 x5 v) → gG E m_L_law d Q (322 * nf) (2566 * nf) (rS v) 28 [(0, .ref (gva E 200)), (1, .ref (gX E + 0)), (2, .ref (gX E + 559)), (3, .ref (gX E + 570)), (4, .ref (gX E + 571)), (5, .int x5)] [])  (x5 : Int32) (v : gV) (hp : p_L_law_2618 N xs K28 PK28 x5 v) (hQ : gqIV Q (f_L_law_2618 N xs K28 x5 v)) : gG E m_L_law d Q (322 * nf + 3) (2566 * nf + 18) (rS v) 2618 [(0, .ref (gva E 200)), (1, .ref (gX E + 0)), (2, .ref (gX E + 559)), (3, .ref (gX E + 570)), (4, .ref (gX E + 571)), (5, .int x5)] [] := by
  refine g_aload_n 1 dL_law_2618 rfl ?_
  refine g_aload_n 0 dL_law_2619 rfl ?_
  refine g_iload 5 dL_law_2620 rfl ?_
  refine g_iconst dL_law_2622 (1 : Int32) (by decide) ?_
  refine g_iadd dL_law_2623 ?_
  obtain ⟨h395, hp⟩ := hp
  refine g_sld hN hxs h395 dL_law_2624 ?_
  refine g_aload_n 0 dL_law_2625 rfl ?_
  refine g_iload 5 dL_law_2626 rfl ?_
  refine g_iconst dL_law_2628 (2 : Int32) (by decide) ?_
  refine g_iadd dL_law_2629 ?_
  obtain ⟨h396, hp⟩ := hp
  refine g_sld hN hxs h396 dL_law_2630 ?_
  refine g_aload_n 3 dL_law_2631 rfl ?_
  obtain ⟨h397, hp⟩ := hp
  refine g_callT (rest := []) s_L_346 rfl (c_L_cheapestCoverBySets (E := E) (d := d - 1)   (by omega) (xs (x5 + (1 : Int32)).toNatClampNeg) (xs (x5 + (2 : Int32)).toNatClampNeg) v h397) cqn rfl rfl (Nat.le_of_ble_eq_true rfl) (by omega) (by omega) (by omega) dL_law_2632 (adV ?_)
  refine g_room (k' := (322 * nf + 0)) (n' := (2566 * nf + 0)) (by omega) (by omega) ?_
  exact w_L_law_2635 nf N xs hN hxs hd K28 PK28 hK28 x5 ((f_L_cheapestCoverBySets (xs (x5 + (1 : Int32)).toNatClampNeg) (xs (x5 + (2 : Int32)).toNatClampNeg) v).1) (f_L_cheapestCoverBySets (xs (x5 + (1 : Int32)).toNatClampNeg) (xs (x5 + (2 : Int32)).toNatClampNeg) v).2 hp hQ
def f_L_law_2739 (N : Nat) (xs : Nat → Int32) (K28 : Int32 → gV → Int32 × gV)  (x5 : Int32) (v : gV) : Int32 × gV := f_L_law_3401 N xs K28 x5 v
def p_L_law_2739 (N : Nat) (xs : Nat → Int32) (K28 : Int32 → gV → Int32 × gV)  (PK28 : Int32 → gV → Prop)  (x5 : Int32) (v : gV) : Prop := p_L_law_3401 N xs K28 PK28 x5 v
set_option maxHeartbeats 4000000 in
set_option maxRecDepth 100000 in
theorem w_L_law_2739 {E : gE} {d : Nat} {Q : gO → gS → Prop} (nf : Nat) (N : Nat) (xs : Nat → Int32) (hN : gva E 201 = N) (hxs : gxs E = xs) (hd : 16 ≤ d) (K28 : Int32 → gV → Int32 × gV)  (PK28 : Int32 → gV → Prop)  (hK28 : ∀ (x5 : Int32) (v : gV), PK28 x5 v → gqIV Q (K28 x5 v) → gG E m_L_law d Q (322 * nf) (2566 * nf) (rS v) 28 [(0, .ref (gva E 200)), (1, .ref (gX E + 0)), (2, .ref (gX E + 559)), (3, .ref (gX E + 570)), (4, .ref (gX E + 571)), (5, .int x5)] [])  (x5 : Int32) (v : gV) (hp : p_L_law_2739 N xs K28 PK28 x5 v) (hQ : gqIV Q (f_L_law_2739 N xs K28 x5 v)) : gG E m_L_law d Q (322 * nf + 0) (2566 * nf + 0) (rS v) 2739 [(0, .ref (gva E 200)), (1, .ref (gX E + 0)), (2, .ref (gX E + 559)), (3, .ref (gX E + 570)), (4, .ref (gX E + 571)), (5, .int x5)] [] := by
  refine g_goto 3401 dL_law_2739 (by decide) ?_
  refine g_room (k' := (322 * nf + 0)) (n' := (2566 * nf + 0)) (by omega) (by omega) ?_
  exact w_L_law_3401 nf N xs hN hxs hd K28 PK28 hK28 x5 v hp hQ
def f_L_law_2709 (N : Nat) (xs : Nat → Int32) (K28 : Int32 → gV → Int32 × gV)  (x5 : Int32) (x6 : Int32) (s0 : Int32) (v : gV) : Int32 × gV := if (f_X12_thrown  v) = x6 then (if x6 = 0 then (if (lg_cmp (v.2.1 570 (0 : Int32).toNatClampNeg) s0.toInt64) = 0 then (f_L_law_2739 N xs K28 x5 v) else (((0 : Int32), v))) else (f_L_law_2739 N xs K28 x5 v)) else (((0 : Int32), v))
def p_L_law_2709 (N : Nat) (xs : Nat → Int32) (K28 : Int32 → gV → Int32 × gV)  (PK28 : Int32 → gV → Prop)  (x5 : Int32) (x6 : Int32) (s0 : Int32) (v : gV) : Prop := (p_X12_thrown  v) ∧ ((((f_X12_thrown  v) = x6) → (((x6 = 0) → ((((lg_cmp (v.2.1 570 (0 : Int32).toNatClampNeg) s0.toInt64) = 0) → (p_L_law_2739 N xs K28 PK28 x5 v)) ∧ (¬ ((lg_cmp (v.2.1 570 (0 : Int32).toNatClampNeg) s0.toInt64) = 0) → (True)))) ∧ (¬ (x6 = 0) → (p_L_law_2739 N xs K28 PK28 x5 v)))) ∧ (¬ ((f_X12_thrown  v) = x6) → (True)))
set_option maxHeartbeats 4000000 in
set_option maxRecDepth 100000 in
theorem w_L_law_2709 {E : gE} {d : Nat} {Q : gO → gS → Prop} (nf : Nat) (N : Nat) (xs : Nat → Int32) (hN : gva E 201 = N) (hxs : gxs E = xs) (hd : 16 ≤ d) (K28 : Int32 → gV → Int32 × gV)  (PK28 : Int32 → gV → Prop)  (hK28 : ∀ (x5 : Int32) (v : gV), PK28 x5 v → gqIV Q (K28 x5 v) → gG E m_L_law d Q (322 * nf) (2566 * nf) (rS v) 28 [(0, .ref (gva E 200)), (1, .ref (gX E + 0)), (2, .ref (gX E + 559)), (3, .ref (gX E + 570)), (4, .ref (gX E + 571)), (5, .int x5)] [])  (x5 : Int32) (x6 : Int32) (s0 : Int32) (v : gV) (hp : p_L_law_2709 N xs K28 PK28 x5 x6 s0 v) (hQ : gqIV Q (f_L_law_2709 N xs K28 x5 x6 s0 v)) : gG E m_L_law d Q (322 * nf + 0) (2566 * nf + 0) (rS v) 2709 [(0, .ref (gva E 200)), (1, .ref (gX E + 0)), (2, .ref (gX E + 559)), (3, .ref (gX E + 570)), (4, .ref (gX E + 571)), (5, .int x5), (6, .int x6)] [.int s0] := by
  refine g_istore [(7, .int s0), (0, .ref (gva E 200)), (1, .ref (gX E + 0)), (2, .ref (gX E + 559)), (3, .ref (gX E + 570)), (4, .ref (gX E + 571)), (5, .int x5), (6, .int x6)] dL_law_2709 (by decide) rfl ?_
  refine g_aload_n 3 dL_law_2711 rfl ?_
  obtain ⟨h410, hp⟩ := hp
  refine g_callV (rest := []) s_L_193_X12 rfl (c_X12_thrown (E := E) (d := d - 1)   (by omega)  v h410) (by decide : kd 559 = (0, 9)) (show 559 < 572 by decide) rfl rfl (Nat.le_of_ble_eq_true rfl) (by omega) (by omega) (by omega) dL_law_2712 (adV ?_) axN
  refine g_iload 7 dL_law_2715 rfl ?_
  refine g_icmp_eq 2722 dL_law_2717 (by decide) (fun h411 => ?_) (fun h411 => ?_)
  · have hQ := qp (P := gqIV Q) h411 hQ
    have hp := hp.1 h411
    refine g_iload 7 dL_law_2722 rfl ?_
    refine g_if_ne 2739 dL_law_2724 (by decide) (fun h412 => ?_) (fun h412 => ?_)
    · have hQ := qn (P := gqIV Q) h412 hQ
      have hp := hp.2 h412
      refine g_room (k' := (322 * nf + 0)) (n' := (2566 * nf + 0)) (by omega) (by omega) ?_
      refine g_lv (lv' := [(0, .ref (gva E 200)), (1, .ref (gX E + 0)), (2, .ref (gX E + 559)), (3, .ref (gX E + 570)), (4, .ref (gX E + 571)), (5, .int x5)]) [1, 2, 3, 4, 5, 6] rfl ?_
      exact w_L_law_2739 nf N xs hN hxs hd K28 PK28 hK28 x5 v hp hQ
    · have hQ := qp (P := gqIV Q) h412 hQ
      have hp := hp.1 h412
      refine g_aload_n 4 dL_law_2727 rfl ?_
      refine g_iconst dL_law_2728 (0 : Int32) (by decide) ?_
      refine g_lald (by decide : kd 570 = (3, 1)) (show 570 < 572 by decide) (show ¬ (_ ∨ _) by decide) dL_law_2729 ?_
      refine g_iload 0 dL_law_2730 rfl ?_
      refine g_i2l dL_law_2732 ?_
      refine g_lcmp dL_law_2733 ?_
      refine g_if_eq 2739 dL_law_2734 (by decide) (fun h413 => ?_) (fun h413 => ?_)
      · have hQ := qp (P := gqIV Q) h413 hQ
        have hp := hp.1 h413
        refine g_room (k' := (322 * nf + 0)) (n' := (2566 * nf + 0)) (by omega) (by omega) ?_
        refine g_lv (lv' := [(0, .ref (gva E 200)), (1, .ref (gX E + 0)), (2, .ref (gX E + 559)), (3, .ref (gX E + 570)), (4, .ref (gX E + 571)), (5, .int x5)]) [1, 2, 3, 4, 5, 6] rfl ?_
        exact w_L_law_2739 nf N xs hN hxs hd K28 PK28 hK28 x5 v hp hQ
      · have hQ := qn (P := gqIV Q) h413 hQ
        have hp := hp.2 h413
        refine g_iconst dL_law_2737 (0 : Int32) (by decide) ?_
        exact g_zret rfl rfl dL_law_2738 hQ
  · have hQ := qn (P := gqIV Q) h411 hQ
    have hp := hp.2 h411
    refine g_iconst dL_law_2720 (0 : Int32) (by decide) ?_
    exact g_zret rfl rfl dL_law_2721 hQ
def f_L_law_2697 (N : Nat) (xs : Nat → Int32) (K28 : Int32 → gV → Int32 × gV)  (x5 : Int32) (s0 : Int32) (v : gV) : Int32 × gV := f_L_law_2709 N xs K28 x5 s0 ((f_X12_policyByLoad (xs (x5 + (1 : Int32)).toNatClampNeg) v).1) (f_X12_policyByLoad (xs (x5 + (1 : Int32)).toNatClampNeg) v).2
def p_L_law_2697 (N : Nat) (xs : Nat → Int32) (K28 : Int32 → gV → Int32 × gV)  (PK28 : Int32 → gV → Prop)  (x5 : Int32) (s0 : Int32) (v : gV) : Prop := (vp_in (x5 + (1 : Int32)) N) ∧ ((p_X12_policyByLoad (xs (x5 + (1 : Int32)).toNatClampNeg) v) ∧ (p_L_law_2709 N xs K28 PK28 x5 s0 ((f_X12_policyByLoad (xs (x5 + (1 : Int32)).toNatClampNeg) v).1) (f_X12_policyByLoad (xs (x5 + (1 : Int32)).toNatClampNeg) v).2))
set_option maxHeartbeats 4000000 in
set_option maxRecDepth 100000 in
theorem w_L_law_2697 {E : gE} {d : Nat} {Q : gO → gS → Prop} (nf : Nat) (N : Nat) (xs : Nat → Int32) (hN : gva E 201 = N) (hxs : gxs E = xs) (hd : 16 ≤ d) (K28 : Int32 → gV → Int32 × gV)  (PK28 : Int32 → gV → Prop)  (hK28 : ∀ (x5 : Int32) (v : gV), PK28 x5 v → gqIV Q (K28 x5 v) → gG E m_L_law d Q (322 * nf) (2566 * nf) (rS v) 28 [(0, .ref (gva E 200)), (1, .ref (gX E + 0)), (2, .ref (gX E + 559)), (3, .ref (gX E + 570)), (4, .ref (gX E + 571)), (5, .int x5)] [])  (x5 : Int32) (s0 : Int32) (v : gV) (hp : p_L_law_2697 N xs K28 PK28 x5 s0 v) (hQ : gqIV Q (f_L_law_2697 N xs K28 x5 s0 v)) : gG E m_L_law d Q (322 * nf + 0) (2566 * nf + 0) (rS v) 2697 [(0, .ref (gva E 200)), (1, .ref (gX E + 0)), (2, .ref (gX E + 559)), (3, .ref (gX E + 570)), (4, .ref (gX E + 571)), (5, .int x5)] [.int s0] := by
  refine g_istore [(6, .int s0), (0, .ref (gva E 200)), (1, .ref (gX E + 0)), (2, .ref (gX E + 559)), (3, .ref (gX E + 570)), (4, .ref (gX E + 571)), (5, .int x5)] dL_law_2697 (by decide) rfl ?_
  refine g_aload_n 3 dL_law_2699 rfl ?_
  refine g_aload_n 1 dL_law_2700 rfl ?_
  refine g_iload 6 dL_law_2701 rfl ?_
  refine g_iconst dL_law_2703 (1 : Int32) (by decide) ?_
  refine g_iadd dL_law_2704 ?_
  obtain ⟨h408, hp⟩ := hp
  refine g_sld hN hxs h408 dL_law_2705 ?_
  obtain ⟨h409, hp⟩ := hp
  refine g_callV (rest := []) s_L_351_X12 rfl (c_X12_policyByLoad (E := E) (d := d - 1)   (by omega) (xs (x5 + (1 : Int32)).toNatClampNeg) v h409) (by decide : kd 559 = (0, 9)) (show 559 < 572 by decide) rfl rfl (Nat.le_of_ble_eq_true rfl) (by omega) (by omega) (by omega) dL_law_2706 (adV ?_) axN
  refine g_room (k' := (322 * nf + 0)) (n' := (2566 * nf + 0)) (by omega) (by omega) ?_
  refine g_lv (lv' := [(0, .ref (gva E 200)), (1, .ref (gX E + 0)), (2, .ref (gX E + 559)), (3, .ref (gX E + 570)), (4, .ref (gX E + 571)), (5, .int x5), (6, .int s0)]) [1, 2, 3, 4, 5, 6, 0] rfl ?_
  exact w_L_law_2709 nf N xs hN hxs hd K28 PK28 hK28 x5 s0 ((f_X12_policyByLoad (xs (x5 + (1 : Int32)).toNatClampNeg) v).1) (f_X12_policyByLoad (xs (x5 + (1 : Int32)).toNatClampNeg) v).2 hp hQ
def f_L_law_2686 (N : Nat) (xs : Nat → Int32) (K28 : Int32 → gV → Int32 × gV)  (x5 : Int32) (v : gV) : Int32 × gV := f_L_law_2697 N xs K28 x5 ((f_L_policyByLoad (xs (x5 + (1 : Int32)).toNatClampNeg) v).1) (f_L_policyByLoad (xs (x5 + (1 : Int32)).toNatClampNeg) v).2
def p_L_law_2686 (N : Nat) (xs : Nat → Int32) (K28 : Int32 → gV → Int32 × gV)  (PK28 : Int32 → gV → Prop)  (x5 : Int32) (v : gV) : Prop := (vp_in (x5 + (1 : Int32)) N) ∧ ((p_L_policyByLoad (xs (x5 + (1 : Int32)).toNatClampNeg) v) ∧ (p_L_law_2697 N xs K28 PK28 x5 ((f_L_policyByLoad (xs (x5 + (1 : Int32)).toNatClampNeg) v).1) (f_L_policyByLoad (xs (x5 + (1 : Int32)).toNatClampNeg) v).2))
set_option maxHeartbeats 4000000 in
set_option maxRecDepth 100000 in
theorem w_L_law_2686 {E : gE} {d : Nat} {Q : gO → gS → Prop} (nf : Nat) (N : Nat) (xs : Nat → Int32) (hN : gva E 201 = N) (hxs : gxs E = xs) (hd : 16 ≤ d) (K28 : Int32 → gV → Int32 × gV)  (PK28 : Int32 → gV → Prop)  (hK28 : ∀ (x5 : Int32) (v : gV), PK28 x5 v → gqIV Q (K28 x5 v) → gG E m_L_law d Q (322 * nf) (2566 * nf) (rS v) 28 [(0, .ref (gva E 200)), (1, .ref (gX E + 0)), (2, .ref (gX E + 559)), (3, .ref (gX E + 570)), (4, .ref (gX E + 571)), (5, .int x5)] [])  (x5 : Int32) (v : gV) (hp : p_L_law_2686 N xs K28 PK28 x5 v) (hQ : gqIV Q (f_L_law_2686 N xs K28 x5 v)) : gG E m_L_law d Q (322 * nf + 1) (2566 * nf + 6) (rS v) 2686 [(0, .ref (gva E 200)), (1, .ref (gX E + 0)), (2, .ref (gX E + 559)), (3, .ref (gX E + 570)), (4, .ref (gX E + 571)), (5, .int x5)] [] := by
  refine g_aload_n 1 dL_law_2686 rfl ?_
  refine g_aload_n 0 dL_law_2687 rfl ?_
  refine g_iload 5 dL_law_2688 rfl ?_
  refine g_iconst dL_law_2690 (1 : Int32) (by decide) ?_
  refine g_iadd dL_law_2691 ?_
  obtain ⟨h406, hp⟩ := hp
  refine g_sld hN hxs h406 dL_law_2692 ?_
  refine g_aload_n 3 dL_law_2693 rfl ?_
  obtain ⟨h407, hp⟩ := hp
  refine g_callT (rest := []) s_L_349 rfl (c_L_policyByLoad (E := E) (d := d - 1)   (by omega) (xs (x5 + (1 : Int32)).toNatClampNeg) v h407) cqn rfl rfl (Nat.le_of_ble_eq_true rfl) (by omega) (by omega) (by omega) dL_law_2694 (adV ?_)
  refine g_room (k' := (322 * nf + 0)) (n' := (2566 * nf + 0)) (by omega) (by omega) ?_
  exact w_L_law_2697 nf N xs hN hxs hd K28 PK28 hK28 x5 ((f_L_policyByLoad (xs (x5 + (1 : Int32)).toNatClampNeg) v).1) (f_L_policyByLoad (xs (x5 + (1 : Int32)).toNatClampNeg) v).2 hp hQ
def f_L_law_2795 (N : Nat) (xs : Nat → Int32) (K28 : Int32 → gV → Int32 × gV)  (x5 : Int32) (v : gV) : Int32 × gV := f_L_law_3401 N xs K28 x5 v
def p_L_law_2795 (N : Nat) (xs : Nat → Int32) (K28 : Int32 → gV → Int32 × gV)  (PK28 : Int32 → gV → Prop)  (x5 : Int32) (v : gV) : Prop := p_L_law_3401 N xs K28 PK28 x5 v
set_option maxHeartbeats 4000000 in
set_option maxRecDepth 100000 in
theorem w_L_law_2795 {E : gE} {d : Nat} {Q : gO → gS → Prop} (nf : Nat) (N : Nat) (xs : Nat → Int32) (hN : gva E 201 = N) (hxs : gxs E = xs) (hd : 16 ≤ d) (K28 : Int32 → gV → Int32 × gV)  (PK28 : Int32 → gV → Prop)  (hK28 : ∀ (x5 : Int32) (v : gV), PK28 x5 v → gqIV Q (K28 x5 v) → gG E m_L_law d Q (322 * nf) (2566 * nf) (rS v) 28 [(0, .ref (gva E 200)), (1, .ref (gX E + 0)), (2, .ref (gX E + 559)), (3, .ref (gX E + 570)), (4, .ref (gX E + 571)), (5, .int x5)] [])  (x5 : Int32) (v : gV) (hp : p_L_law_2795 N xs K28 PK28 x5 v) (hQ : gqIV Q (f_L_law_2795 N xs K28 x5 v)) : gG E m_L_law d Q (322 * nf + 0) (2566 * nf + 0) (rS v) 2795 [(0, .ref (gva E 200)), (1, .ref (gX E + 0)), (2, .ref (gX E + 559)), (3, .ref (gX E + 570)), (4, .ref (gX E + 571)), (5, .int x5)] [] := by
  refine g_goto 3401 dL_law_2795 (by decide) ?_
  refine g_room (k' := (322 * nf + 0)) (n' := (2566 * nf + 0)) (by omega) (by omega) ?_
  exact w_L_law_3401 nf N xs hN hxs hd K28 PK28 hK28 x5 v hp hQ
def f_L_law_2765 (N : Nat) (xs : Nat → Int32) (K28 : Int32 → gV → Int32 × gV)  (x5 : Int32) (x6 : Int32) (s0 : Int32) (v : gV) : Int32 × gV := if (f_X12_thrown  v) = x6 then (if x6 = 0 then (if (lg_cmp (v.2.1 570 (0 : Int32).toNatClampNeg) s0.toInt64) = 0 then (f_L_law_2795 N xs K28 x5 v) else (((0 : Int32), v))) else (f_L_law_2795 N xs K28 x5 v)) else (((0 : Int32), v))
def p_L_law_2765 (N : Nat) (xs : Nat → Int32) (K28 : Int32 → gV → Int32 × gV)  (PK28 : Int32 → gV → Prop)  (x5 : Int32) (x6 : Int32) (s0 : Int32) (v : gV) : Prop := (p_X12_thrown  v) ∧ ((((f_X12_thrown  v) = x6) → (((x6 = 0) → ((((lg_cmp (v.2.1 570 (0 : Int32).toNatClampNeg) s0.toInt64) = 0) → (p_L_law_2795 N xs K28 PK28 x5 v)) ∧ (¬ ((lg_cmp (v.2.1 570 (0 : Int32).toNatClampNeg) s0.toInt64) = 0) → (True)))) ∧ (¬ (x6 = 0) → (p_L_law_2795 N xs K28 PK28 x5 v)))) ∧ (¬ ((f_X12_thrown  v) = x6) → (True)))
set_option maxHeartbeats 4000000 in
set_option maxRecDepth 100000 in
theorem w_L_law_2765 {E : gE} {d : Nat} {Q : gO → gS → Prop} (nf : Nat) (N : Nat) (xs : Nat → Int32) (hN : gva E 201 = N) (hxs : gxs E = xs) (hd : 16 ≤ d) (K28 : Int32 → gV → Int32 × gV)  (PK28 : Int32 → gV → Prop)  (hK28 : ∀ (x5 : Int32) (v : gV), PK28 x5 v → gqIV Q (K28 x5 v) → gG E m_L_law d Q (322 * nf) (2566 * nf) (rS v) 28 [(0, .ref (gva E 200)), (1, .ref (gX E + 0)), (2, .ref (gX E + 559)), (3, .ref (gX E + 570)), (4, .ref (gX E + 571)), (5, .int x5)] [])  (x5 : Int32) (x6 : Int32) (s0 : Int32) (v : gV) (hp : p_L_law_2765 N xs K28 PK28 x5 x6 s0 v) (hQ : gqIV Q (f_L_law_2765 N xs K28 x5 x6 s0 v)) : gG E m_L_law d Q (322 * nf + 0) (2566 * nf + 0) (rS v) 2765 [(0, .ref (gva E 200)), (1, .ref (gX E + 0)), (2, .ref (gX E + 559)), (3, .ref (gX E + 570)), (4, .ref (gX E + 571)), (5, .int x5), (6, .int x6)] [.int s0] := by
  refine g_istore [(7, .int s0), (0, .ref (gva E 200)), (1, .ref (gX E + 0)), (2, .ref (gX E + 559)), (3, .ref (gX E + 570)), (4, .ref (gX E + 571)), (5, .int x5), (6, .int x6)] dL_law_2765 (by decide) rfl ?_
  refine g_aload_n 3 dL_law_2767 rfl ?_
  obtain ⟨h419, hp⟩ := hp
  refine g_callV (rest := []) s_L_193_X12 rfl (c_X12_thrown (E := E) (d := d - 1)   (by omega)  v h419) (by decide : kd 559 = (0, 9)) (show 559 < 572 by decide) rfl rfl (Nat.le_of_ble_eq_true rfl) (by omega) (by omega) (by omega) dL_law_2768 (adV ?_) axN
  refine g_iload 7 dL_law_2771 rfl ?_
  refine g_icmp_eq 2778 dL_law_2773 (by decide) (fun h420 => ?_) (fun h420 => ?_)
  · have hQ := qp (P := gqIV Q) h420 hQ
    have hp := hp.1 h420
    refine g_iload 7 dL_law_2778 rfl ?_
    refine g_if_ne 2795 dL_law_2780 (by decide) (fun h421 => ?_) (fun h421 => ?_)
    · have hQ := qn (P := gqIV Q) h421 hQ
      have hp := hp.2 h421
      refine g_room (k' := (322 * nf + 0)) (n' := (2566 * nf + 0)) (by omega) (by omega) ?_
      refine g_lv (lv' := [(0, .ref (gva E 200)), (1, .ref (gX E + 0)), (2, .ref (gX E + 559)), (3, .ref (gX E + 570)), (4, .ref (gX E + 571)), (5, .int x5)]) [1, 2, 3, 4, 5, 6] rfl ?_
      exact w_L_law_2795 nf N xs hN hxs hd K28 PK28 hK28 x5 v hp hQ
    · have hQ := qp (P := gqIV Q) h421 hQ
      have hp := hp.1 h421
      refine g_aload_n 4 dL_law_2783 rfl ?_
      refine g_iconst dL_law_2784 (0 : Int32) (by decide) ?_
      refine g_lald (by decide : kd 570 = (3, 1)) (show 570 < 572 by decide) (show ¬ (_ ∨ _) by decide) dL_law_2785 ?_
      refine g_iload 0 dL_law_2786 rfl ?_
      refine g_i2l dL_law_2788 ?_
      refine g_lcmp dL_law_2789 ?_
      refine g_if_eq 2795 dL_law_2790 (by decide) (fun h422 => ?_) (fun h422 => ?_)
      · have hQ := qp (P := gqIV Q) h422 hQ
        have hp := hp.1 h422
        refine g_room (k' := (322 * nf + 0)) (n' := (2566 * nf + 0)) (by omega) (by omega) ?_
        refine g_lv (lv' := [(0, .ref (gva E 200)), (1, .ref (gX E + 0)), (2, .ref (gX E + 559)), (3, .ref (gX E + 570)), (4, .ref (gX E + 571)), (5, .int x5)]) [1, 2, 3, 4, 5, 6] rfl ?_
        exact w_L_law_2795 nf N xs hN hxs hd K28 PK28 hK28 x5 v hp hQ
      · have hQ := qn (P := gqIV Q) h422 hQ
        have hp := hp.2 h422
        refine g_iconst dL_law_2793 (0 : Int32) (by decide) ?_
        exact g_zret rfl rfl dL_law_2794 hQ
  · have hQ := qn (P := gqIV Q) h420 hQ
    have hp := hp.2 h420
    refine g_iconst dL_law_2776 (0 : Int32) (by decide) ?_
    exact g_zret rfl rfl dL_law_2777 hQ
def f_L_law_2753 (N : Nat) (xs : Nat → Int32) (K28 : Int32 → gV → Int32 × gV)  (x5 : Int32) (s0 : Int32) (v : gV) : Int32 × gV := f_L_law_2765 N xs K28 x5 s0 ((f_X12_claimByUnpaid (xs (x5 + (1 : Int32)).toNatClampNeg) v).1) (f_X12_claimByUnpaid (xs (x5 + (1 : Int32)).toNatClampNeg) v).2
def p_L_law_2753 (N : Nat) (xs : Nat → Int32) (K28 : Int32 → gV → Int32 × gV)  (PK28 : Int32 → gV → Prop)  (x5 : Int32) (s0 : Int32) (v : gV) : Prop := (vp_in (x5 + (1 : Int32)) N) ∧ ((p_X12_claimByUnpaid (xs (x5 + (1 : Int32)).toNatClampNeg) v) ∧ (p_L_law_2765 N xs K28 PK28 x5 s0 ((f_X12_claimByUnpaid (xs (x5 + (1 : Int32)).toNatClampNeg) v).1) (f_X12_claimByUnpaid (xs (x5 + (1 : Int32)).toNatClampNeg) v).2))
set_option maxHeartbeats 4000000 in
set_option maxRecDepth 100000 in
theorem w_L_law_2753 {E : gE} {d : Nat} {Q : gO → gS → Prop} (nf : Nat) (N : Nat) (xs : Nat → Int32) (hN : gva E 201 = N) (hxs : gxs E = xs) (hd : 16 ≤ d) (K28 : Int32 → gV → Int32 × gV)  (PK28 : Int32 → gV → Prop)  (hK28 : ∀ (x5 : Int32) (v : gV), PK28 x5 v → gqIV Q (K28 x5 v) → gG E m_L_law d Q (322 * nf) (2566 * nf) (rS v) 28 [(0, .ref (gva E 200)), (1, .ref (gX E + 0)), (2, .ref (gX E + 559)), (3, .ref (gX E + 570)), (4, .ref (gX E + 571)), (5, .int x5)] [])  (x5 : Int32) (s0 : Int32) (v : gV) (hp : p_L_law_2753 N xs K28 PK28 x5 s0 v) (hQ : gqIV Q (f_L_law_2753 N xs K28 x5 s0 v)) : gG E m_L_law d Q (322 * nf + 0) (2566 * nf + 0) (rS v) 2753 [(0, .ref (gva E 200)), (1, .ref (gX E + 0)), (2, .ref (gX E + 559)), (3, .ref (gX E + 570)), (4, .ref (gX E + 571)), (5, .int x5)] [.int s0] := by
  refine g_istore [(6, .int s0), (0, .ref (gva E 200)), (1, .ref (gX E + 0)), (2, .ref (gX E + 559)), (3, .ref (gX E + 570)), (4, .ref (gX E + 571)), (5, .int x5)] dL_law_2753 (by decide) rfl ?_
  refine g_aload_n 3 dL_law_2755 rfl ?_
  refine g_aload_n 1 dL_law_2756 rfl ?_
  refine g_iload 6 dL_law_2757 rfl ?_
  refine g_iconst dL_law_2759 (1 : Int32) (by decide) ?_
  refine g_iadd dL_law_2760 ?_
  obtain ⟨h417, hp⟩ := hp
  refine g_sld hN hxs h417 dL_law_2761 ?_
  obtain ⟨h418, hp⟩ := hp
  refine g_callV (rest := []) s_L_354_X12 rfl (c_X12_claimByUnpaid (E := E) (d := d - 1)   (by omega) (xs (x5 + (1 : Int32)).toNatClampNeg) v h418) (by decide : kd 559 = (0, 9)) (show 559 < 572 by decide) rfl rfl (Nat.le_of_ble_eq_true rfl) (by omega) (by omega) (by omega) dL_law_2762 (adV ?_) axN
  refine g_room (k' := (322 * nf + 0)) (n' := (2566 * nf + 0)) (by omega) (by omega) ?_
  refine g_lv (lv' := [(0, .ref (gva E 200)), (1, .ref (gX E + 0)), (2, .ref (gX E + 559)), (3, .ref (gX E + 570)), (4, .ref (gX E + 571)), (5, .int x5), (6, .int s0)]) [1, 2, 3, 4, 5, 6, 0] rfl ?_
  exact w_L_law_2765 nf N xs hN hxs hd K28 PK28 hK28 x5 s0 ((f_X12_claimByUnpaid (xs (x5 + (1 : Int32)).toNatClampNeg) v).1) (f_X12_claimByUnpaid (xs (x5 + (1 : Int32)).toNatClampNeg) v).2 hp hQ
def f_L_law_2742 (N : Nat) (xs : Nat → Int32) (K28 : Int32 → gV → Int32 × gV)  (x5 : Int32) (v : gV) : Int32 × gV := f_L_law_2753 N xs K28 x5 ((f_L_claimByUnpaid (xs (x5 + (1 : Int32)).toNatClampNeg) v).1) (f_L_claimByUnpaid (xs (x5 + (1 : Int32)).toNatClampNeg) v).2
def p_L_law_2742 (N : Nat) (xs : Nat → Int32) (K28 : Int32 → gV → Int32 × gV)  (PK28 : Int32 → gV → Prop)  (x5 : Int32) (v : gV) : Prop := (vp_in (x5 + (1 : Int32)) N) ∧ ((p_L_claimByUnpaid (xs (x5 + (1 : Int32)).toNatClampNeg) v) ∧ (p_L_law_2753 N xs K28 PK28 x5 ((f_L_claimByUnpaid (xs (x5 + (1 : Int32)).toNatClampNeg) v).1) (f_L_claimByUnpaid (xs (x5 + (1 : Int32)).toNatClampNeg) v).2))
set_option maxHeartbeats 4000000 in
set_option maxRecDepth 100000 in
theorem w_L_law_2742 {E : gE} {d : Nat} {Q : gO → gS → Prop} (nf : Nat) (N : Nat) (xs : Nat → Int32) (hN : gva E 201 = N) (hxs : gxs E = xs) (hd : 16 ≤ d) (K28 : Int32 → gV → Int32 × gV)  (PK28 : Int32 → gV → Prop)  (hK28 : ∀ (x5 : Int32) (v : gV), PK28 x5 v → gqIV Q (K28 x5 v) → gG E m_L_law d Q (322 * nf) (2566 * nf) (rS v) 28 [(0, .ref (gva E 200)), (1, .ref (gX E + 0)), (2, .ref (gX E + 559)), (3, .ref (gX E + 570)), (4, .ref (gX E + 571)), (5, .int x5)] [])  (x5 : Int32) (v : gV) (hp : p_L_law_2742 N xs K28 PK28 x5 v) (hQ : gqIV Q (f_L_law_2742 N xs K28 x5 v)) : gG E m_L_law d Q (322 * nf + 1) (2566 * nf + 6) (rS v) 2742 [(0, .ref (gva E 200)), (1, .ref (gX E + 0)), (2, .ref (gX E + 559)), (3, .ref (gX E + 570)), (4, .ref (gX E + 571)), (5, .int x5)] [] := by
  refine g_aload_n 1 dL_law_2742 rfl ?_
  refine g_aload_n 0 dL_law_2743 rfl ?_
  refine g_iload 5 dL_law_2744 rfl ?_
  refine g_iconst dL_law_2746 (1 : Int32) (by decide) ?_
  refine g_iadd dL_law_2747 ?_
  obtain ⟨h415, hp⟩ := hp
  refine g_sld hN hxs h415 dL_law_2748 ?_
  refine g_aload_n 3 dL_law_2749 rfl ?_
  obtain ⟨h416, hp⟩ := hp
  refine g_callT (rest := []) s_L_352 rfl (c_L_claimByUnpaid (E := E) (d := d - 1)   (by omega) (xs (x5 + (1 : Int32)).toNatClampNeg) v h416) cqn rfl rfl (Nat.le_of_ble_eq_true rfl) (by omega) (by omega) (by omega) dL_law_2750 (adV ?_)
  refine g_room (k' := (322 * nf + 0)) (n' := (2566 * nf + 0)) (by omega) (by omega) ?_
  exact w_L_law_2753 nf N xs hN hxs hd K28 PK28 hK28 x5 ((f_L_claimByUnpaid (xs (x5 + (1 : Int32)).toNatClampNeg) v).1) (f_L_claimByUnpaid (xs (x5 + (1 : Int32)).toNatClampNeg) v).2 hp hQ
def f_L_law_2860 (N : Nat) (xs : Nat → Int32) (K28 : Int32 → gV → Int32 × gV)  (x5 : Int32) (v : gV) : Int32 × gV := f_L_law_3401 N xs K28 x5 v
def p_L_law_2860 (N : Nat) (xs : Nat → Int32) (K28 : Int32 → gV → Int32 × gV)  (PK28 : Int32 → gV → Prop)  (x5 : Int32) (v : gV) : Prop := p_L_law_3401 N xs K28 PK28 x5 v
set_option maxHeartbeats 4000000 in
set_option maxRecDepth 100000 in
theorem w_L_law_2860 {E : gE} {d : Nat} {Q : gO → gS → Prop} (nf : Nat) (N : Nat) (xs : Nat → Int32) (hN : gva E 201 = N) (hxs : gxs E = xs) (hd : 16 ≤ d) (K28 : Int32 → gV → Int32 × gV)  (PK28 : Int32 → gV → Prop)  (hK28 : ∀ (x5 : Int32) (v : gV), PK28 x5 v → gqIV Q (K28 x5 v) → gG E m_L_law d Q (322 * nf) (2566 * nf) (rS v) 28 [(0, .ref (gva E 200)), (1, .ref (gX E + 0)), (2, .ref (gX E + 559)), (3, .ref (gX E + 570)), (4, .ref (gX E + 571)), (5, .int x5)] [])  (x5 : Int32) (v : gV) (hp : p_L_law_2860 N xs K28 PK28 x5 v) (hQ : gqIV Q (f_L_law_2860 N xs K28 x5 v)) : gG E m_L_law d Q (322 * nf + 0) (2566 * nf + 0) (rS v) 2860 [(0, .ref (gva E 200)), (1, .ref (gX E + 0)), (2, .ref (gX E + 559)), (3, .ref (gX E + 570)), (4, .ref (gX E + 571)), (5, .int x5)] [] := by
  refine g_goto 3401 dL_law_2860 (by decide) ?_
  refine g_room (k' := (322 * nf + 0)) (n' := (2566 * nf + 0)) (by omega) (by omega) ?_
  exact w_L_law_3401 nf N xs hN hxs hd K28 PK28 hK28 x5 v hp hQ
def f_L_law_2858 (N : Nat) (xs : Nat → Int32)  (v : gV) : Int32 × gV := ((0 : Int32), v)
def p_L_law_2858 (N : Nat) (xs : Nat → Int32)  (v : gV) : Prop := True
set_option maxHeartbeats 4000000 in
set_option maxRecDepth 100000 in
theorem w_L_law_2858 {E : gE} {d : Nat} {Q : gO → gS → Prop} (N : Nat) (xs : Nat → Int32) (hN : gva E 201 = N) (hxs : gxs E = xs) (hd : 16 ≤ d)  (v : gV) (hp : p_L_law_2858 N xs    v) (hQ : gqIV Q (f_L_law_2858 N xs   v)) : gG E m_L_law d Q 0 0 (rS v) 2858 [] [] := by
  refine g_iconst dL_law_2858 (0 : Int32) (by decide) ?_
  exact g_zret rfl rfl dL_law_2859 hQ
def f_L_law_2810 (N : Nat) (xs : Nat → Int32) (K28 : Int32 → gV → Int32 × gV)  (x5 : Int32) (x6 : Int32) (s0 : UInt64) (v : gV) : Int32 × gV := if (f_X12_thrown  v) = x6 then (if x6 = 0 then (if (Op.cmpValue (FP.dcmp (v.2.2 (0 : Int32).toNatClampNeg) s0) .l) = 0 then (f_L_law_2860 N xs K28 x5 v) else (if (Op.cmpValue (FP.dcmp (v.2.2 (0 : Int32).toNatClampNeg) (v.2.2 (0 : Int32).toNatClampNeg)) .l) = 0 then (f_L_law_2858 N xs   v) else (if (Op.cmpValue (FP.dcmp s0 s0) .l) = 0 then (f_L_law_2858 N xs   v) else (f_L_law_2860 N xs K28 x5 v)))) else (f_L_law_2860 N xs K28 x5 v)) else (((0 : Int32), v))
def p_L_law_2810 (N : Nat) (xs : Nat → Int32) (K28 : Int32 → gV → Int32 × gV)  (PK28 : Int32 → gV → Prop)  (x5 : Int32) (x6 : Int32) (s0 : UInt64) (v : gV) : Prop := (p_X12_thrown  v) ∧ ((((f_X12_thrown  v) = x6) → (((x6 = 0) → ((((Op.cmpValue (FP.dcmp (v.2.2 (0 : Int32).toNatClampNeg) s0) .l) = 0) → (p_L_law_2860 N xs K28 PK28 x5 v)) ∧ (¬ ((Op.cmpValue (FP.dcmp (v.2.2 (0 : Int32).toNatClampNeg) s0) .l) = 0) → ((((Op.cmpValue (FP.dcmp (v.2.2 (0 : Int32).toNatClampNeg) (v.2.2 (0 : Int32).toNatClampNeg)) .l) = 0) → (p_L_law_2858 N xs    v)) ∧ (¬ ((Op.cmpValue (FP.dcmp (v.2.2 (0 : Int32).toNatClampNeg) (v.2.2 (0 : Int32).toNatClampNeg)) .l) = 0) → ((((Op.cmpValue (FP.dcmp s0 s0) .l) = 0) → (p_L_law_2858 N xs    v)) ∧ (¬ ((Op.cmpValue (FP.dcmp s0 s0) .l) = 0) → (p_L_law_2860 N xs K28 PK28 x5 v)))))))) ∧ (¬ (x6 = 0) → (p_L_law_2860 N xs K28 PK28 x5 v)))) ∧ (¬ ((f_X12_thrown  v) = x6) → (True)))
set_option maxHeartbeats 4000000 in
set_option maxRecDepth 100000 in
theorem w_L_law_2810 {E : gE} {d : Nat} {Q : gO → gS → Prop} (nf : Nat) (N : Nat) (xs : Nat → Int32) (hN : gva E 201 = N) (hxs : gxs E = xs) (hd : 16 ≤ d) (K28 : Int32 → gV → Int32 × gV)  (PK28 : Int32 → gV → Prop)  (hK28 : ∀ (x5 : Int32) (v : gV), PK28 x5 v → gqIV Q (K28 x5 v) → gG E m_L_law d Q (322 * nf) (2566 * nf) (rS v) 28 [(0, .ref (gva E 200)), (1, .ref (gX E + 0)), (2, .ref (gX E + 559)), (3, .ref (gX E + 570)), (4, .ref (gX E + 571)), (5, .int x5)] [])  (x5 : Int32) (x6 : Int32) (s0 : UInt64) (v : gV) (hp : p_L_law_2810 N xs K28 PK28 x5 x6 s0 v) (hQ : gqIV Q (f_L_law_2810 N xs K28 x5 x6 s0 v)) : gG E m_L_law d Q (322 * nf + 0) (2566 * nf + 0) (rS v) 2810 [(0, .ref (gva E 200)), (1, .ref (gX E + 0)), (2, .ref (gX E + 559)), (3, .ref (gX E + 570)), (4, .ref (gX E + 571)), (5, .int x5), (6, .int x6)] [.double s0] := by
  refine g_dstore [(7, .double s0), (0, .ref (gva E 200)), (1, .ref (gX E + 0)), (2, .ref (gX E + 559)), (3, .ref (gX E + 570)), (4, .ref (gX E + 571)), (5, .int x5), (6, .int x6)] dL_law_2810 (by decide) rfl ?_
  refine g_aload_n 3 dL_law_2812 rfl ?_
  obtain ⟨h426, hp⟩ := hp
  refine g_callV (rest := []) s_L_193_X12 rfl (c_X12_thrown (E := E) (d := d - 1)   (by omega)  v h426) (by decide : kd 559 = (0, 9)) (show 559 < 572 by decide) rfl rfl (Nat.le_of_ble_eq_true rfl) (by omega) (by omega) (by omega) dL_law_2813 (adV ?_) axN
  refine g_iload 7 dL_law_2816 rfl ?_
  refine g_icmp_eq 2823 dL_law_2818 (by decide) (fun h427 => ?_) (fun h427 => ?_)
  · have hQ := qp (P := gqIV Q) h427 hQ
    have hp := hp.1 h427
    refine g_iload 7 dL_law_2823 rfl ?_
    refine g_if_ne 2860 dL_law_2825 (by decide) (fun h428 => ?_) (fun h428 => ?_)
    · have hQ := qn (P := gqIV Q) h428 hQ
      have hp := hp.2 h428
      refine g_room (k' := (322 * nf + 0)) (n' := (2566 * nf + 0)) (by omega) (by omega) ?_
      refine g_lv (lv' := [(0, .ref (gva E 200)), (1, .ref (gX E + 0)), (2, .ref (gX E + 559)), (3, .ref (gX E + 570)), (4, .ref (gX E + 571)), (5, .int x5)]) [1, 2, 3, 4, 5, 6] rfl ?_
      exact w_L_law_2860 nf N xs hN hxs hd K28 PK28 hK28 x5 v hp hQ
    · have hQ := qp (P := gqIV Q) h428 hQ
      have hp := hp.1 h428
      refine g_aload 5 dL_law_2828 rfl ?_
      refine g_iconst dL_law_2830 (0 : Int32) (by decide) ?_
      refine g_dald (by decide : kd 571 = (6, 1)) (show 571 < 572 by decide) (show ¬ (_ ∨ _) by decide) dL_law_2831 ?_
      refine g_dload 0 dL_law_2832 rfl ?_
      refine g_dcmp dL_law_2834 ?_
      refine g_if_eq 2860 dL_law_2835 (by decide) (fun h429 => ?_) (fun h429 => ?_)
      · have hQ := qp (P := gqIV Q) h429 hQ
        have hp := hp.1 h429
        refine g_room (k' := (322 * nf + 0)) (n' := (2566 * nf + 0)) (by omega) (by omega) ?_
        refine g_lv (lv' := [(0, .ref (gva E 200)), (1, .ref (gX E + 0)), (2, .ref (gX E + 559)), (3, .ref (gX E + 570)), (4, .ref (gX E + 571)), (5, .int x5)]) [1, 2, 3, 4, 5, 6] rfl ?_
        exact w_L_law_2860 nf N xs hN hxs hd K28 PK28 hK28 x5 v hp hQ
      · have hQ := qn (P := gqIV Q) h429 hQ
        have hp := hp.2 h429
        refine g_aload 5 dL_law_2838 rfl ?_
        refine g_iconst dL_law_2840 (0 : Int32) (by decide) ?_
        refine g_dald (by decide : kd 571 = (6, 1)) (show 571 < 572 by decide) (show ¬ (_ ∨ _) by decide) dL_law_2841 ?_
        refine g_aload 5 dL_law_2842 rfl ?_
        refine g_iconst dL_law_2844 (0 : Int32) (by decide) ?_
        refine g_dald (by decide : kd 571 = (6, 1)) (show 571 < 572 by decide) (show ¬ (_ ∨ _) by decide) dL_law_2845 ?_
        refine g_dcmp dL_law_2846 ?_
        refine g_if_eq 2858 dL_law_2847 (by decide) (fun h430 => ?_) (fun h430 => ?_)
        · have hQ := qp (P := gqIV Q) h430 hQ
          have hp := hp.1 h430
          refine g_room (k' := 0) (n' := 0) (by omega) (by omega) ?_
          refine g_lv (lv' := []) [] rfl ?_
          exact w_L_law_2858 N xs hN hxs hd     v hp hQ
        · have hQ := qn (P := gqIV Q) h430 hQ
          have hp := hp.2 h430
          refine g_dload 0 dL_law_2850 rfl ?_
          refine g_dload 0 dL_law_2852 rfl ?_
          refine g_dcmp dL_law_2854 ?_
          refine g_if_ne 2860 dL_law_2855 (by decide) (fun h431 => ?_) (fun h431 => ?_)
          · have hQ := qn (P := gqIV Q) h431 hQ
            have hp := hp.2 h431
            refine g_room (k' := (322 * nf + 0)) (n' := (2566 * nf + 0)) (by omega) (by omega) ?_
            refine g_lv (lv' := [(0, .ref (gva E 200)), (1, .ref (gX E + 0)), (2, .ref (gX E + 559)), (3, .ref (gX E + 570)), (4, .ref (gX E + 571)), (5, .int x5)]) [1, 2, 3, 4, 5, 6] rfl ?_
            exact w_L_law_2860 nf N xs hN hxs hd K28 PK28 hK28 x5 v hp hQ
          · have hQ := qp (P := gqIV Q) h431 hQ
            have hp := hp.1 h431
            refine g_room (k' := 0) (n' := 0) (by omega) (by omega) ?_
            refine g_lv (lv' := []) [] rfl ?_
            exact w_L_law_2858 N xs hN hxs hd     v hp hQ
  · have hQ := qn (P := gqIV Q) h427 hQ
    have hp := hp.2 h427
    refine g_iconst dL_law_2821 (0 : Int32) (by decide) ?_
    exact g_zret rfl rfl dL_law_2822 hQ
def f_L_law_2804 (N : Nat) (xs : Nat → Int32) (K28 : Int32 → gV → Int32 × gV)  (x5 : Int32) (s0 : Int32) (v : gV) : Int32 × gV := f_L_law_2810 N xs K28 x5 s0 ((f_X12_meanSum  v).1) (f_X12_meanSum  v).2
def p_L_law_2804 (N : Nat) (xs : Nat → Int32) (K28 : Int32 → gV → Int32 × gV)  (PK28 : Int32 → gV → Prop)  (x5 : Int32) (s0 : Int32) (v : gV) : Prop := (p_X12_meanSum  v) ∧ (p_L_law_2810 N xs K28 PK28 x5 s0 ((f_X12_meanSum  v).1) (f_X12_meanSum  v).2)
set_option maxHeartbeats 4000000 in
set_option maxRecDepth 100000 in
theorem w_L_law_2804 {E : gE} {d : Nat} {Q : gO → gS → Prop} (nf : Nat) (N : Nat) (xs : Nat → Int32) (hN : gva E 201 = N) (hxs : gxs E = xs) (hd : 16 ≤ d) (K28 : Int32 → gV → Int32 × gV)  (PK28 : Int32 → gV → Prop)  (hK28 : ∀ (x5 : Int32) (v : gV), PK28 x5 v → gqIV Q (K28 x5 v) → gG E m_L_law d Q (322 * nf) (2566 * nf) (rS v) 28 [(0, .ref (gva E 200)), (1, .ref (gX E + 0)), (2, .ref (gX E + 559)), (3, .ref (gX E + 570)), (4, .ref (gX E + 571)), (5, .int x5)] [])  (x5 : Int32) (s0 : Int32) (v : gV) (hp : p_L_law_2804 N xs K28 PK28 x5 s0 v) (hQ : gqIV Q (f_L_law_2804 N xs K28 x5 s0 v)) : gG E m_L_law d Q (322 * nf + 0) (2566 * nf + 0) (rS v) 2804 [(0, .ref (gva E 200)), (1, .ref (gX E + 0)), (2, .ref (gX E + 559)), (3, .ref (gX E + 570)), (4, .ref (gX E + 571)), (5, .int x5)] [.int s0] := by
  refine g_istore [(6, .int s0), (0, .ref (gva E 200)), (1, .ref (gX E + 0)), (2, .ref (gX E + 559)), (3, .ref (gX E + 570)), (4, .ref (gX E + 571)), (5, .int x5)] dL_law_2804 (by decide) rfl ?_
  refine g_aload_n 3 dL_law_2806 rfl ?_
  obtain ⟨h425, hp⟩ := hp
  refine g_callV (rest := []) s_L_358_X12 rfl (c_X12_meanSum (E := E) (d := d - 1)   (by omega)  v h425) (by decide : kd 559 = (0, 9)) (show 559 < 572 by decide) rfl rfl (Nat.le_of_ble_eq_true rfl) (by omega) (by omega) (by omega) dL_law_2807 (adV ?_) axN
  refine g_room (k' := (322 * nf + 0)) (n' := (2566 * nf + 0)) (by omega) (by omega) ?_
  refine g_lv (lv' := [(0, .ref (gva E 200)), (1, .ref (gX E + 0)), (2, .ref (gX E + 559)), (3, .ref (gX E + 570)), (4, .ref (gX E + 571)), (5, .int x5), (6, .int s0)]) [1, 2, 3, 4, 5, 6, 0] rfl ?_
  exact w_L_law_2810 nf N xs hN hxs hd K28 PK28 hK28 x5 s0 ((f_X12_meanSum  v).1) (f_X12_meanSum  v).2 hp hQ
def f_L_law_2798 (N : Nat) (xs : Nat → Int32) (K28 : Int32 → gV → Int32 × gV)  (x5 : Int32) (v : gV) : Int32 × gV := f_L_law_2804 N xs K28 x5 ((f_L_meanSum  v).1) (f_L_meanSum  v).2
def p_L_law_2798 (N : Nat) (xs : Nat → Int32) (K28 : Int32 → gV → Int32 × gV)  (PK28 : Int32 → gV → Prop)  (x5 : Int32) (v : gV) : Prop := (p_L_meanSum  v) ∧ (p_L_law_2804 N xs K28 PK28 x5 ((f_L_meanSum  v).1) (f_L_meanSum  v).2)
set_option maxHeartbeats 4000000 in
set_option maxRecDepth 100000 in
theorem w_L_law_2798 {E : gE} {d : Nat} {Q : gO → gS → Prop} (nf : Nat) (N : Nat) (xs : Nat → Int32) (hN : gva E 201 = N) (hxs : gxs E = xs) (hd : 16 ≤ d) (K28 : Int32 → gV → Int32 × gV)  (PK28 : Int32 → gV → Prop)  (hK28 : ∀ (x5 : Int32) (v : gV), PK28 x5 v → gqIV Q (K28 x5 v) → gG E m_L_law d Q (322 * nf) (2566 * nf) (rS v) 28 [(0, .ref (gva E 200)), (1, .ref (gX E + 0)), (2, .ref (gX E + 559)), (3, .ref (gX E + 570)), (4, .ref (gX E + 571)), (5, .int x5)] [])  (x5 : Int32) (v : gV) (hp : p_L_law_2798 N xs K28 PK28 x5 v) (hQ : gqIV Q (f_L_law_2798 N xs K28 x5 v)) : gG E m_L_law d Q (322 * nf + 1) (2566 * nf + 6) (rS v) 2798 [(0, .ref (gva E 200)), (1, .ref (gX E + 0)), (2, .ref (gX E + 559)), (3, .ref (gX E + 570)), (4, .ref (gX E + 571)), (5, .int x5)] [] := by
  refine g_aload_n 1 dL_law_2798 rfl ?_
  refine g_aload 4 dL_law_2799 rfl ?_
  obtain ⟨h424, hp⟩ := hp
  refine g_callT (rest := []) s_L_355 rfl (c_L_meanSum (E := E) (d := d - 1)   (by omega)  v h424) cqn rfl rfl (Nat.le_of_ble_eq_true rfl) (by omega) (by omega) (by omega) dL_law_2801 (adV ?_)
  refine g_room (k' := (322 * nf + 0)) (n' := (2566 * nf + 0)) (by omega) (by omega) ?_
  exact w_L_law_2804 nf N xs hN hxs hd K28 PK28 hK28 x5 ((f_L_meanSum  v).1) (f_L_meanSum  v).2 hp hQ
def f_L_law_2926 (N : Nat) (xs : Nat → Int32) (K28 : Int32 → gV → Int32 × gV)  (x5 : Int32) (v : gV) : Int32 × gV := f_L_law_3401 N xs K28 x5 v
def p_L_law_2926 (N : Nat) (xs : Nat → Int32) (K28 : Int32 → gV → Int32 × gV)  (PK28 : Int32 → gV → Prop)  (x5 : Int32) (v : gV) : Prop := p_L_law_3401 N xs K28 PK28 x5 v
set_option maxHeartbeats 4000000 in
set_option maxRecDepth 100000 in
theorem w_L_law_2926 {E : gE} {d : Nat} {Q : gO → gS → Prop} (nf : Nat) (N : Nat) (xs : Nat → Int32) (hN : gva E 201 = N) (hxs : gxs E = xs) (hd : 16 ≤ d) (K28 : Int32 → gV → Int32 × gV)  (PK28 : Int32 → gV → Prop)  (hK28 : ∀ (x5 : Int32) (v : gV), PK28 x5 v → gqIV Q (K28 x5 v) → gG E m_L_law d Q (322 * nf) (2566 * nf) (rS v) 28 [(0, .ref (gva E 200)), (1, .ref (gX E + 0)), (2, .ref (gX E + 559)), (3, .ref (gX E + 570)), (4, .ref (gX E + 571)), (5, .int x5)] [])  (x5 : Int32) (v : gV) (hp : p_L_law_2926 N xs K28 PK28 x5 v) (hQ : gqIV Q (f_L_law_2926 N xs K28 x5 v)) : gG E m_L_law d Q (322 * nf + 0) (2566 * nf + 0) (rS v) 2926 [(0, .ref (gva E 200)), (1, .ref (gX E + 0)), (2, .ref (gX E + 559)), (3, .ref (gX E + 570)), (4, .ref (gX E + 571)), (5, .int x5)] [] := by
  refine g_goto 3401 dL_law_2926 (by decide) ?_
  refine g_room (k' := (322 * nf + 0)) (n' := (2566 * nf + 0)) (by omega) (by omega) ?_
  exact w_L_law_3401 nf N xs hN hxs hd K28 PK28 hK28 x5 v hp hQ
def f_L_law_2924 (N : Nat) (xs : Nat → Int32)  (v : gV) : Int32 × gV := ((0 : Int32), v)
def p_L_law_2924 (N : Nat) (xs : Nat → Int32)  (v : gV) : Prop := True
set_option maxHeartbeats 4000000 in
set_option maxRecDepth 100000 in
theorem w_L_law_2924 {E : gE} {d : Nat} {Q : gO → gS → Prop} (N : Nat) (xs : Nat → Int32) (hN : gva E 201 = N) (hxs : gxs E = xs) (hd : 16 ≤ d)  (v : gV) (hp : p_L_law_2924 N xs    v) (hQ : gqIV Q (f_L_law_2924 N xs   v)) : gG E m_L_law d Q 0 0 (rS v) 2924 [] [] := by
  refine g_iconst dL_law_2924 (0 : Int32) (by decide) ?_
  exact g_zret rfl rfl dL_law_2925 hQ
def f_L_law_2875 (N : Nat) (xs : Nat → Int32) (K28 : Int32 → gV → Int32 × gV)  (x5 : Int32) (x6 : Int32) (s0 : UInt32) (v : gV) : Int32 × gV := if (f_X12_thrown  v) = x6 then (if x6 = 0 then (if (Op.cmpValue (FP.dcmp (v.2.2 (0 : Int32).toNatClampNeg) (FP.f2d s0)) .l) = 0 then (f_L_law_2926 N xs K28 x5 v) else (if (Op.cmpValue (FP.dcmp (v.2.2 (0 : Int32).toNatClampNeg) (v.2.2 (0 : Int32).toNatClampNeg)) .l) = 0 then (f_L_law_2924 N xs   v) else (if (Op.cmpValue (FP.fcmp s0 s0) .l) = 0 then (f_L_law_2924 N xs   v) else (f_L_law_2926 N xs K28 x5 v)))) else (f_L_law_2926 N xs K28 x5 v)) else (((0 : Int32), v))
def p_L_law_2875 (N : Nat) (xs : Nat → Int32) (K28 : Int32 → gV → Int32 × gV)  (PK28 : Int32 → gV → Prop)  (x5 : Int32) (x6 : Int32) (s0 : UInt32) (v : gV) : Prop := (p_X12_thrown  v) ∧ ((((f_X12_thrown  v) = x6) → (((x6 = 0) → ((vf_n64 (FP.f2d s0)) ∧ ((((Op.cmpValue (FP.dcmp (v.2.2 (0 : Int32).toNatClampNeg) (FP.f2d s0)) .l) = 0) → (p_L_law_2926 N xs K28 PK28 x5 v)) ∧ (¬ ((Op.cmpValue (FP.dcmp (v.2.2 (0 : Int32).toNatClampNeg) (FP.f2d s0)) .l) = 0) → ((((Op.cmpValue (FP.dcmp (v.2.2 (0 : Int32).toNatClampNeg) (v.2.2 (0 : Int32).toNatClampNeg)) .l) = 0) → (p_L_law_2924 N xs    v)) ∧ (¬ ((Op.cmpValue (FP.dcmp (v.2.2 (0 : Int32).toNatClampNeg) (v.2.2 (0 : Int32).toNatClampNeg)) .l) = 0) → ((((Op.cmpValue (FP.fcmp s0 s0) .l) = 0) → (p_L_law_2924 N xs    v)) ∧ (¬ ((Op.cmpValue (FP.fcmp s0 s0) .l) = 0) → (p_L_law_2926 N xs K28 PK28 x5 v))))))))) ∧ (¬ (x6 = 0) → (p_L_law_2926 N xs K28 PK28 x5 v)))) ∧ (¬ ((f_X12_thrown  v) = x6) → (True)))
set_option maxHeartbeats 4000000 in
set_option maxRecDepth 100000 in
theorem w_L_law_2875 {E : gE} {d : Nat} {Q : gO → gS → Prop} (nf : Nat) (N : Nat) (xs : Nat → Int32) (hN : gva E 201 = N) (hxs : gxs E = xs) (hd : 16 ≤ d) (K28 : Int32 → gV → Int32 × gV)  (PK28 : Int32 → gV → Prop)  (hK28 : ∀ (x5 : Int32) (v : gV), PK28 x5 v → gqIV Q (K28 x5 v) → gG E m_L_law d Q (322 * nf) (2566 * nf) (rS v) 28 [(0, .ref (gva E 200)), (1, .ref (gX E + 0)), (2, .ref (gX E + 559)), (3, .ref (gX E + 570)), (4, .ref (gX E + 571)), (5, .int x5)] [])  (x5 : Int32) (x6 : Int32) (s0 : UInt32) (v : gV) (hp : p_L_law_2875 N xs K28 PK28 x5 x6 s0 v) (hQ : gqIV Q (f_L_law_2875 N xs K28 x5 x6 s0 v)) : gG E m_L_law d Q (322 * nf + 0) (2566 * nf + 0) (rS v) 2875 [(0, .ref (gva E 200)), (1, .ref (gX E + 0)), (2, .ref (gX E + 559)), (3, .ref (gX E + 570)), (4, .ref (gX E + 571)), (5, .int x5), (6, .int x6)] [.float s0] := by
  refine g_fstore [(7, .float s0), (0, .ref (gva E 200)), (1, .ref (gX E + 0)), (2, .ref (gX E + 559)), (3, .ref (gX E + 570)), (4, .ref (gX E + 571)), (5, .int x5), (6, .int x6)] dL_law_2875 (by decide) rfl ?_
  refine g_aload_n 3 dL_law_2877 rfl ?_
  obtain ⟨h435, hp⟩ := hp
  refine g_callV (rest := []) s_L_193_X12 rfl (c_X12_thrown (E := E) (d := d - 1)   (by omega)  v h435) (by decide : kd 559 = (0, 9)) (show 559 < 572 by decide) rfl rfl (Nat.le_of_ble_eq_true rfl) (by omega) (by omega) (by omega) dL_law_2878 (adV ?_) axN
  refine g_iload 7 dL_law_2881 rfl ?_
  refine g_icmp_eq 2888 dL_law_2883 (by decide) (fun h436 => ?_) (fun h436 => ?_)
  · have hQ := qp (P := gqIV Q) h436 hQ
    have hp := hp.1 h436
    refine g_iload 7 dL_law_2888 rfl ?_
    refine g_if_ne 2926 dL_law_2890 (by decide) (fun h437 => ?_) (fun h437 => ?_)
    · have hQ := qn (P := gqIV Q) h437 hQ
      have hp := hp.2 h437
      refine g_room (k' := (322 * nf + 0)) (n' := (2566 * nf + 0)) (by omega) (by omega) ?_
      refine g_lv (lv' := [(0, .ref (gva E 200)), (1, .ref (gX E + 0)), (2, .ref (gX E + 559)), (3, .ref (gX E + 570)), (4, .ref (gX E + 571)), (5, .int x5)]) [1, 2, 3, 4, 5, 6] rfl ?_
      exact w_L_law_2926 nf N xs hN hxs hd K28 PK28 hK28 x5 v hp hQ
    · have hQ := qp (P := gqIV Q) h437 hQ
      have hp := hp.1 h437
      refine g_aload 5 dL_law_2893 rfl ?_
      refine g_iconst dL_law_2895 (0 : Int32) (by decide) ?_
      refine g_dald (by decide : kd 571 = (6, 1)) (show 571 < 572 by decide) (show ¬ (_ ∨ _) by decide) dL_law_2896 ?_
      refine g_fload 0 dL_law_2897 rfl ?_
      obtain ⟨h438, hp⟩ := hp
      refine g_f2d dL_law_2899 h438 ?_
      refine g_dcmp dL_law_2900 ?_
      refine g_if_eq 2926 dL_law_2901 (by decide) (fun h439 => ?_) (fun h439 => ?_)
      · have hQ := qp (P := gqIV Q) h439 hQ
        have hp := hp.1 h439
        refine g_room (k' := (322 * nf + 0)) (n' := (2566 * nf + 0)) (by omega) (by omega) ?_
        refine g_lv (lv' := [(0, .ref (gva E 200)), (1, .ref (gX E + 0)), (2, .ref (gX E + 559)), (3, .ref (gX E + 570)), (4, .ref (gX E + 571)), (5, .int x5)]) [1, 2, 3, 4, 5, 6] rfl ?_
        exact w_L_law_2926 nf N xs hN hxs hd K28 PK28 hK28 x5 v hp hQ
      · have hQ := qn (P := gqIV Q) h439 hQ
        have hp := hp.2 h439
        refine g_aload 5 dL_law_2904 rfl ?_
        refine g_iconst dL_law_2906 (0 : Int32) (by decide) ?_
        refine g_dald (by decide : kd 571 = (6, 1)) (show 571 < 572 by decide) (show ¬ (_ ∨ _) by decide) dL_law_2907 ?_
        refine g_aload 5 dL_law_2908 rfl ?_
        refine g_iconst dL_law_2910 (0 : Int32) (by decide) ?_
        refine g_dald (by decide : kd 571 = (6, 1)) (show 571 < 572 by decide) (show ¬ (_ ∨ _) by decide) dL_law_2911 ?_
        refine g_dcmp dL_law_2912 ?_
        refine g_if_eq 2924 dL_law_2913 (by decide) (fun h440 => ?_) (fun h440 => ?_)
        · have hQ := qp (P := gqIV Q) h440 hQ
          have hp := hp.1 h440
          refine g_room (k' := 0) (n' := 0) (by omega) (by omega) ?_
          refine g_lv (lv' := []) [] rfl ?_
          exact w_L_law_2924 N xs hN hxs hd     v hp hQ
        · have hQ := qn (P := gqIV Q) h440 hQ
          have hp := hp.2 h440
          refine g_fload 0 dL_law_2916 rfl ?_
          refine g_fload 0 dL_law_2918 rfl ?_
          refine g_fcmp dL_law_2920 ?_
          refine g_if_ne 2926 dL_law_2921 (by decide) (fun h441 => ?_) (fun h441 => ?_)
          · have hQ := qn (P := gqIV Q) h441 hQ
            have hp := hp.2 h441
            refine g_room (k' := (322 * nf + 0)) (n' := (2566 * nf + 0)) (by omega) (by omega) ?_
            refine g_lv (lv' := [(0, .ref (gva E 200)), (1, .ref (gX E + 0)), (2, .ref (gX E + 559)), (3, .ref (gX E + 570)), (4, .ref (gX E + 571)), (5, .int x5)]) [1, 2, 3, 4, 5, 6] rfl ?_
            exact w_L_law_2926 nf N xs hN hxs hd K28 PK28 hK28 x5 v hp hQ
          · have hQ := qp (P := gqIV Q) h441 hQ
            have hp := hp.1 h441
            refine g_room (k' := 0) (n' := 0) (by omega) (by omega) ?_
            refine g_lv (lv' := []) [] rfl ?_
            exact w_L_law_2924 N xs hN hxs hd     v hp hQ
  · have hQ := qn (P := gqIV Q) h436 hQ
    have hp := hp.2 h436
    refine g_iconst dL_law_2886 (0 : Int32) (by decide) ?_
    exact g_zret rfl rfl dL_law_2887 hQ
def f_L_law_2869 (N : Nat) (xs : Nat → Int32) (K28 : Int32 → gV → Int32 × gV)  (x5 : Int32) (s0 : Int32) (v : gV) : Int32 × gV := f_L_law_2875 N xs K28 x5 s0 ((f_X12_paidShare  v).1) (f_X12_paidShare  v).2
def p_L_law_2869 (N : Nat) (xs : Nat → Int32) (K28 : Int32 → gV → Int32 × gV)  (PK28 : Int32 → gV → Prop)  (x5 : Int32) (s0 : Int32) (v : gV) : Prop := (p_X12_paidShare  v) ∧ (p_L_law_2875 N xs K28 PK28 x5 s0 ((f_X12_paidShare  v).1) (f_X12_paidShare  v).2)
set_option maxHeartbeats 4000000 in
set_option maxRecDepth 100000 in
theorem w_L_law_2869 {E : gE} {d : Nat} {Q : gO → gS → Prop} (nf : Nat) (N : Nat) (xs : Nat → Int32) (hN : gva E 201 = N) (hxs : gxs E = xs) (hd : 16 ≤ d) (K28 : Int32 → gV → Int32 × gV)  (PK28 : Int32 → gV → Prop)  (hK28 : ∀ (x5 : Int32) (v : gV), PK28 x5 v → gqIV Q (K28 x5 v) → gG E m_L_law d Q (322 * nf) (2566 * nf) (rS v) 28 [(0, .ref (gva E 200)), (1, .ref (gX E + 0)), (2, .ref (gX E + 559)), (3, .ref (gX E + 570)), (4, .ref (gX E + 571)), (5, .int x5)] [])  (x5 : Int32) (s0 : Int32) (v : gV) (hp : p_L_law_2869 N xs K28 PK28 x5 s0 v) (hQ : gqIV Q (f_L_law_2869 N xs K28 x5 s0 v)) : gG E m_L_law d Q (322 * nf + 0) (2566 * nf + 0) (rS v) 2869 [(0, .ref (gva E 200)), (1, .ref (gX E + 0)), (2, .ref (gX E + 559)), (3, .ref (gX E + 570)), (4, .ref (gX E + 571)), (5, .int x5)] [.int s0] := by
  refine g_istore [(6, .int s0), (0, .ref (gva E 200)), (1, .ref (gX E + 0)), (2, .ref (gX E + 559)), (3, .ref (gX E + 570)), (4, .ref (gX E + 571)), (5, .int x5)] dL_law_2869 (by decide) rfl ?_
  refine g_aload_n 3 dL_law_2871 rfl ?_
  obtain ⟨h434, hp⟩ := hp
  refine g_callV (rest := []) s_L_361_X12 rfl (c_X12_paidShare (E := E) (d := d - 1)   (by omega)  v h434) (by decide : kd 559 = (0, 9)) (show 559 < 572 by decide) rfl rfl (Nat.le_of_ble_eq_true rfl) (by omega) (by omega) (by omega) dL_law_2872 (adV ?_) axN
  refine g_room (k' := (322 * nf + 0)) (n' := (2566 * nf + 0)) (by omega) (by omega) ?_
  refine g_lv (lv' := [(0, .ref (gva E 200)), (1, .ref (gX E + 0)), (2, .ref (gX E + 559)), (3, .ref (gX E + 570)), (4, .ref (gX E + 571)), (5, .int x5), (6, .int s0)]) [1, 2, 3, 4, 5, 6, 0] rfl ?_
  exact w_L_law_2875 nf N xs hN hxs hd K28 PK28 hK28 x5 s0 ((f_X12_paidShare  v).1) (f_X12_paidShare  v).2 hp hQ
def f_L_law_2863 (N : Nat) (xs : Nat → Int32) (K28 : Int32 → gV → Int32 × gV)  (x5 : Int32) (v : gV) : Int32 × gV := f_L_law_2869 N xs K28 x5 ((f_L_paidShare  v).1) (f_L_paidShare  v).2
def p_L_law_2863 (N : Nat) (xs : Nat → Int32) (K28 : Int32 → gV → Int32 × gV)  (PK28 : Int32 → gV → Prop)  (x5 : Int32) (v : gV) : Prop := (p_L_paidShare  v) ∧ (p_L_law_2869 N xs K28 PK28 x5 ((f_L_paidShare  v).1) (f_L_paidShare  v).2)
set_option maxHeartbeats 4000000 in
set_option maxRecDepth 100000 in
theorem w_L_law_2863 {E : gE} {d : Nat} {Q : gO → gS → Prop} (nf : Nat) (N : Nat) (xs : Nat → Int32) (hN : gva E 201 = N) (hxs : gxs E = xs) (hd : 16 ≤ d) (K28 : Int32 → gV → Int32 × gV)  (PK28 : Int32 → gV → Prop)  (hK28 : ∀ (x5 : Int32) (v : gV), PK28 x5 v → gqIV Q (K28 x5 v) → gG E m_L_law d Q (322 * nf) (2566 * nf) (rS v) 28 [(0, .ref (gva E 200)), (1, .ref (gX E + 0)), (2, .ref (gX E + 559)), (3, .ref (gX E + 570)), (4, .ref (gX E + 571)), (5, .int x5)] [])  (x5 : Int32) (v : gV) (hp : p_L_law_2863 N xs K28 PK28 x5 v) (hQ : gqIV Q (f_L_law_2863 N xs K28 x5 v)) : gG E m_L_law d Q (322 * nf + 1) (2566 * nf + 6) (rS v) 2863 [(0, .ref (gva E 200)), (1, .ref (gX E + 0)), (2, .ref (gX E + 559)), (3, .ref (gX E + 570)), (4, .ref (gX E + 571)), (5, .int x5)] [] := by
  refine g_aload_n 1 dL_law_2863 rfl ?_
  refine g_aload 4 dL_law_2864 rfl ?_
  obtain ⟨h433, hp⟩ := hp
  refine g_callT (rest := []) s_L_359 rfl (c_L_paidShare (E := E) (d := d - 1)   (by omega)  v h433) cqn rfl rfl (Nat.le_of_ble_eq_true rfl) (by omega) (by omega) (by omega) dL_law_2866 (adV ?_)
  refine g_room (k' := (322 * nf + 0)) (n' := (2566 * nf + 0)) (by omega) (by omega) ?_
  exact w_L_law_2869 nf N xs hN hxs hd K28 PK28 hK28 x5 ((f_L_paidShare  v).1) (f_L_paidShare  v).2 hp hQ
def f_L_law_2937 (N : Nat) (xs : Nat → Int32) (K28 : Int32 → gV → Int32 × gV)  (x5 : Int32) (s0 : Int32) (s1 : Int32) (v : gV) : Int32 × gV := if s1 = s0 then (f_L_law_3401 N xs K28 x5 v) else (((0 : Int32), v))
def p_L_law_2937 (N : Nat) (xs : Nat → Int32) (K28 : Int32 → gV → Int32 × gV)  (PK28 : Int32 → gV → Prop)  (x5 : Int32) (s0 : Int32) (s1 : Int32) (v : gV) : Prop := ((s1 = s0) → (p_L_law_3401 N xs K28 PK28 x5 v)) ∧ (¬ (s1 = s0) → (True))
set_option maxHeartbeats 4000000 in
set_option maxRecDepth 100000 in
theorem w_L_law_2937 {E : gE} {d : Nat} {Q : gO → gS → Prop} (nf : Nat) (N : Nat) (xs : Nat → Int32) (hN : gva E 201 = N) (hxs : gxs E = xs) (hd : 16 ≤ d) (K28 : Int32 → gV → Int32 × gV)  (PK28 : Int32 → gV → Prop)  (hK28 : ∀ (x5 : Int32) (v : gV), PK28 x5 v → gqIV Q (K28 x5 v) → gG E m_L_law d Q (322 * nf) (2566 * nf) (rS v) 28 [(0, .ref (gva E 200)), (1, .ref (gX E + 0)), (2, .ref (gX E + 559)), (3, .ref (gX E + 570)), (4, .ref (gX E + 571)), (5, .int x5)] [])  (x5 : Int32) (s0 : Int32) (s1 : Int32) (v : gV) (hp : p_L_law_2937 N xs K28 PK28 x5 s0 s1 v) (hQ : gqIV Q (f_L_law_2937 N xs K28 x5 s0 s1 v)) : gG E m_L_law d Q (322 * nf + 0) (2566 * nf + 0) (rS v) 2937 [(0, .ref (gva E 200)), (1, .ref (gX E + 0)), (2, .ref (gX E + 559)), (3, .ref (gX E + 570)), (4, .ref (gX E + 571)), (5, .int x5)] [.int s0, .int s1] := by
  refine g_icmp_eq 3401 dL_law_2937 (by decide) (fun h445 => ?_) (fun h445 => ?_)
  · have hQ := qp (P := gqIV Q) h445 hQ
    have hp := hp.1 h445
    refine g_room (k' := (322 * nf + 0)) (n' := (2566 * nf + 0)) (by omega) (by omega) ?_
    exact w_L_law_3401 nf N xs hN hxs hd K28 PK28 hK28 x5 v hp hQ
  · have hQ := qn (P := gqIV Q) h445 hQ
    have hp := hp.2 h445
    refine g_iconst dL_law_2940 (0 : Int32) (by decide) ?_
    exact g_zret rfl rfl dL_law_2941 hQ
def f_L_law_2933 (N : Nat) (xs : Nat → Int32) (K28 : Int32 → gV → Int32 × gV)  (x5 : Int32) (s0 : Int32) (v : gV) : Int32 × gV := f_L_law_2937 N xs K28 x5 ((f_X12_isConsistent  v).1) s0 (f_X12_isConsistent  v).2
def p_L_law_2933 (N : Nat) (xs : Nat → Int32) (K28 : Int32 → gV → Int32 × gV)  (PK28 : Int32 → gV → Prop)  (x5 : Int32) (s0 : Int32) (v : gV) : Prop := (p_X12_isConsistent  v) ∧ (p_L_law_2937 N xs K28 PK28 x5 ((f_X12_isConsistent  v).1) s0 (f_X12_isConsistent  v).2)
set_option maxHeartbeats 4000000 in
set_option maxRecDepth 100000 in
theorem w_L_law_2933 {E : gE} {d : Nat} {Q : gO → gS → Prop} (nf : Nat) (N : Nat) (xs : Nat → Int32) (hN : gva E 201 = N) (hxs : gxs E = xs) (hd : 16 ≤ d) (K28 : Int32 → gV → Int32 × gV)  (PK28 : Int32 → gV → Prop)  (hK28 : ∀ (x5 : Int32) (v : gV), PK28 x5 v → gqIV Q (K28 x5 v) → gG E m_L_law d Q (322 * nf) (2566 * nf) (rS v) 28 [(0, .ref (gva E 200)), (1, .ref (gX E + 0)), (2, .ref (gX E + 559)), (3, .ref (gX E + 570)), (4, .ref (gX E + 571)), (5, .int x5)] [])  (x5 : Int32) (s0 : Int32) (v : gV) (hp : p_L_law_2933 N xs K28 PK28 x5 s0 v) (hQ : gqIV Q (f_L_law_2933 N xs K28 x5 s0 v)) : gG E m_L_law d Q (322 * nf + 0) (2566 * nf + 0) (rS v) 2933 [(0, .ref (gva E 200)), (1, .ref (gX E + 0)), (2, .ref (gX E + 559)), (3, .ref (gX E + 570)), (4, .ref (gX E + 571)), (5, .int x5)] [.int s0] := by
  refine g_aload_n 2 dL_law_2933 rfl ?_
  obtain ⟨h444, hp⟩ := hp
  refine g_callV (rest := [.int s0]) s_L_366_X12 rfl (c_X12_isConsistent (E := E) (d := d - 1)   (by omega)  v h444) (by decide : kd 559 = (0, 9)) (show 559 < 572 by decide) rfl rfl (Nat.le_of_ble_eq_true rfl) (by omega) (by omega) (by omega) dL_law_2934 (adV ?_) axN
  refine g_room (k' := (322 * nf + 0)) (n' := (2566 * nf + 0)) (by omega) (by omega) ?_
  exact w_L_law_2937 nf N xs hN hxs hd K28 PK28 hK28 x5 ((f_X12_isConsistent  v).1) s0 (f_X12_isConsistent  v).2 hp hQ
def f_L_law_2929 (N : Nat) (xs : Nat → Int32) (K28 : Int32 → gV → Int32 × gV)  (x5 : Int32) (v : gV) : Int32 × gV := f_L_law_2933 N xs K28 x5 ((f_X11_isConsistent  v).1) (f_X11_isConsistent  v).2
def p_L_law_2929 (N : Nat) (xs : Nat → Int32) (K28 : Int32 → gV → Int32 × gV)  (PK28 : Int32 → gV → Prop)  (x5 : Int32) (v : gV) : Prop := (p_X11_isConsistent  v) ∧ (p_L_law_2933 N xs K28 PK28 x5 ((f_X11_isConsistent  v).1) (f_X11_isConsistent  v).2)
set_option maxHeartbeats 4000000 in
set_option maxRecDepth 100000 in
theorem w_L_law_2929 {E : gE} {d : Nat} {Q : gO → gS → Prop} (nf : Nat) (N : Nat) (xs : Nat → Int32) (hN : gva E 201 = N) (hxs : gxs E = xs) (hd : 16 ≤ d) (K28 : Int32 → gV → Int32 × gV)  (PK28 : Int32 → gV → Prop)  (hK28 : ∀ (x5 : Int32) (v : gV), PK28 x5 v → gqIV Q (K28 x5 v) → gG E m_L_law d Q (322 * nf) (2566 * nf) (rS v) 28 [(0, .ref (gva E 200)), (1, .ref (gX E + 0)), (2, .ref (gX E + 559)), (3, .ref (gX E + 570)), (4, .ref (gX E + 571)), (5, .int x5)] [])  (x5 : Int32) (v : gV) (hp : p_L_law_2929 N xs K28 PK28 x5 v) (hQ : gqIV Q (f_L_law_2929 N xs K28 x5 v)) : gG E m_L_law d Q (322 * nf + 0) (2566 * nf + 0) (rS v) 2929 [(0, .ref (gva E 200)), (1, .ref (gX E + 0)), (2, .ref (gX E + 559)), (3, .ref (gX E + 570)), (4, .ref (gX E + 571)), (5, .int x5)] [] := by
  refine g_aload_n 1 dL_law_2929 rfl ?_
  obtain ⟨h443, hp⟩ := hp
  refine g_callV (rest := []) s_L_362_X11 rfl (c_X11_isConsistent (E := E) (d := d - 1)   (by omega)  v h443) (by decide : kd 0 = (0, 8)) (show 0 < 572 by decide) rfl rfl (Nat.le_of_ble_eq_true rfl) (by omega) (by omega) (by omega) dL_law_2930 (adV ?_) axN
  refine g_room (k' := (322 * nf + 0)) (n' := (2566 * nf + 0)) (by omega) (by omega) ?_
  exact w_L_law_2933 nf N xs hN hxs hd K28 PK28 hK28 x5 ((f_X11_isConsistent  v).1) (f_X11_isConsistent  v).2 hp hQ
def f_L_law_2995 (N : Nat) (xs : Nat → Int32) (K28 : Int32 → gV → Int32 × gV)  (x5 : Int32) (v : gV) : Int32 × gV := f_L_law_3401 N xs K28 x5 v
def p_L_law_2995 (N : Nat) (xs : Nat → Int32) (K28 : Int32 → gV → Int32 × gV)  (PK28 : Int32 → gV → Prop)  (x5 : Int32) (v : gV) : Prop := p_L_law_3401 N xs K28 PK28 x5 v
set_option maxHeartbeats 4000000 in
set_option maxRecDepth 100000 in
theorem w_L_law_2995 {E : gE} {d : Nat} {Q : gO → gS → Prop} (nf : Nat) (N : Nat) (xs : Nat → Int32) (hN : gva E 201 = N) (hxs : gxs E = xs) (hd : 16 ≤ d) (K28 : Int32 → gV → Int32 × gV)  (PK28 : Int32 → gV → Prop)  (hK28 : ∀ (x5 : Int32) (v : gV), PK28 x5 v → gqIV Q (K28 x5 v) → gG E m_L_law d Q (322 * nf) (2566 * nf) (rS v) 28 [(0, .ref (gva E 200)), (1, .ref (gX E + 0)), (2, .ref (gX E + 559)), (3, .ref (gX E + 570)), (4, .ref (gX E + 571)), (5, .int x5)] [])  (x5 : Int32) (v : gV) (hp : p_L_law_2995 N xs K28 PK28 x5 v) (hQ : gqIV Q (f_L_law_2995 N xs K28 x5 v)) : gG E m_L_law d Q (322 * nf + 0) (2566 * nf + 0) (rS v) 2995 [(0, .ref (gva E 200)), (1, .ref (gX E + 0)), (2, .ref (gX E + 559)), (3, .ref (gX E + 570)), (4, .ref (gX E + 571)), (5, .int x5)] [] := by
  refine g_goto 3401 dL_law_2995 (by decide) ?_
  refine g_room (k' := (322 * nf + 0)) (n' := (2566 * nf + 0)) (by omega) (by omega) ?_
  exact w_L_law_3401 nf N xs hN hxs hd K28 PK28 hK28 x5 v hp hQ
def f_L_law_2965 (N : Nat) (xs : Nat → Int32) (K28 : Int32 → gV → Int32 × gV)  (x5 : Int32) (x6 : Int32) (s0 : Int32) (v : gV) : Int32 × gV := if (f_X12_thrown  v) = x6 then (if x6 = 0 then (if (lg_cmp (v.2.1 570 (0 : Int32).toNatClampNeg) s0.toInt64) = 0 then (f_L_law_2995 N xs K28 x5 v) else (((0 : Int32), v))) else (f_L_law_2995 N xs K28 x5 v)) else (((0 : Int32), v))
def p_L_law_2965 (N : Nat) (xs : Nat → Int32) (K28 : Int32 → gV → Int32 × gV)  (PK28 : Int32 → gV → Prop)  (x5 : Int32) (x6 : Int32) (s0 : Int32) (v : gV) : Prop := (p_X12_thrown  v) ∧ ((((f_X12_thrown  v) = x6) → (((x6 = 0) → ((((lg_cmp (v.2.1 570 (0 : Int32).toNatClampNeg) s0.toInt64) = 0) → (p_L_law_2995 N xs K28 PK28 x5 v)) ∧ (¬ ((lg_cmp (v.2.1 570 (0 : Int32).toNatClampNeg) s0.toInt64) = 0) → (True)))) ∧ (¬ (x6 = 0) → (p_L_law_2995 N xs K28 PK28 x5 v)))) ∧ (¬ ((f_X12_thrown  v) = x6) → (True)))
set_option maxHeartbeats 4000000 in
set_option maxRecDepth 100000 in
theorem w_L_law_2965 {E : gE} {d : Nat} {Q : gO → gS → Prop} (nf : Nat) (N : Nat) (xs : Nat → Int32) (hN : gva E 201 = N) (hxs : gxs E = xs) (hd : 16 ≤ d) (K28 : Int32 → gV → Int32 × gV)  (PK28 : Int32 → gV → Prop)  (hK28 : ∀ (x5 : Int32) (v : gV), PK28 x5 v → gqIV Q (K28 x5 v) → gG E m_L_law d Q (322 * nf) (2566 * nf) (rS v) 28 [(0, .ref (gva E 200)), (1, .ref (gX E + 0)), (2, .ref (gX E + 559)), (3, .ref (gX E + 570)), (4, .ref (gX E + 571)), (5, .int x5)] [])  (x5 : Int32) (x6 : Int32) (s0 : Int32) (v : gV) (hp : p_L_law_2965 N xs K28 PK28 x5 x6 s0 v) (hQ : gqIV Q (f_L_law_2965 N xs K28 x5 x6 s0 v)) : gG E m_L_law d Q (322 * nf + 0) (2566 * nf + 0) (rS v) 2965 [(0, .ref (gva E 200)), (1, .ref (gX E + 0)), (2, .ref (gX E + 559)), (3, .ref (gX E + 570)), (4, .ref (gX E + 571)), (5, .int x5), (6, .int x6)] [.int s0] := by
  refine g_istore [(7, .int s0), (0, .ref (gva E 200)), (1, .ref (gX E + 0)), (2, .ref (gX E + 559)), (3, .ref (gX E + 570)), (4, .ref (gX E + 571)), (5, .int x5), (6, .int x6)] dL_law_2965 (by decide) rfl ?_
  refine g_aload_n 3 dL_law_2967 rfl ?_
  obtain ⟨h451, hp⟩ := hp
  refine g_callV (rest := []) s_L_193_X12 rfl (c_X12_thrown (E := E) (d := d - 1)   (by omega)  v h451) (by decide : kd 559 = (0, 9)) (show 559 < 572 by decide) rfl rfl (Nat.le_of_ble_eq_true rfl) (by omega) (by omega) (by omega) dL_law_2968 (adV ?_) axN
  refine g_iload 7 dL_law_2971 rfl ?_
  refine g_icmp_eq 2978 dL_law_2973 (by decide) (fun h452 => ?_) (fun h452 => ?_)
  · have hQ := qp (P := gqIV Q) h452 hQ
    have hp := hp.1 h452
    refine g_iload 7 dL_law_2978 rfl ?_
    refine g_if_ne 2995 dL_law_2980 (by decide) (fun h453 => ?_) (fun h453 => ?_)
    · have hQ := qn (P := gqIV Q) h453 hQ
      have hp := hp.2 h453
      refine g_room (k' := (322 * nf + 0)) (n' := (2566 * nf + 0)) (by omega) (by omega) ?_
      refine g_lv (lv' := [(0, .ref (gva E 200)), (1, .ref (gX E + 0)), (2, .ref (gX E + 559)), (3, .ref (gX E + 570)), (4, .ref (gX E + 571)), (5, .int x5)]) [1, 2, 3, 4, 5, 6] rfl ?_
      exact w_L_law_2995 nf N xs hN hxs hd K28 PK28 hK28 x5 v hp hQ
    · have hQ := qp (P := gqIV Q) h453 hQ
      have hp := hp.1 h453
      refine g_aload_n 4 dL_law_2983 rfl ?_
      refine g_iconst dL_law_2984 (0 : Int32) (by decide) ?_
      refine g_lald (by decide : kd 570 = (3, 1)) (show 570 < 572 by decide) (show ¬ (_ ∨ _) by decide) dL_law_2985 ?_
      refine g_iload 0 dL_law_2986 rfl ?_
      refine g_i2l dL_law_2988 ?_
      refine g_lcmp dL_law_2989 ?_
      refine g_if_eq 2995 dL_law_2990 (by decide) (fun h454 => ?_) (fun h454 => ?_)
      · have hQ := qp (P := gqIV Q) h454 hQ
        have hp := hp.1 h454
        refine g_room (k' := (322 * nf + 0)) (n' := (2566 * nf + 0)) (by omega) (by omega) ?_
        refine g_lv (lv' := [(0, .ref (gva E 200)), (1, .ref (gX E + 0)), (2, .ref (gX E + 559)), (3, .ref (gX E + 570)), (4, .ref (gX E + 571)), (5, .int x5)]) [1, 2, 3, 4, 5, 6] rfl ?_
        exact w_L_law_2995 nf N xs hN hxs hd K28 PK28 hK28 x5 v hp hQ
      · have hQ := qn (P := gqIV Q) h454 hQ
        have hp := hp.2 h454
        refine g_iconst dL_law_2993 (0 : Int32) (by decide) ?_
        exact g_zret rfl rfl dL_law_2994 hQ
  · have hQ := qn (P := gqIV Q) h452 hQ
    have hp := hp.2 h452
    refine g_iconst dL_law_2976 (0 : Int32) (by decide) ?_
    exact g_zret rfl rfl dL_law_2977 hQ
def f_L_law_2953 (N : Nat) (xs : Nat → Int32) (K28 : Int32 → gV → Int32 × gV)  (x5 : Int32) (s0 : Int32) (v : gV) : Int32 × gV := f_L_law_2965 N xs K28 x5 s0 ((f_X12_writePolicy (xs (x5 + (1 : Int32)).toNatClampNeg) v).1) (f_X12_writePolicy (xs (x5 + (1 : Int32)).toNatClampNeg) v).2
def p_L_law_2953 (N : Nat) (xs : Nat → Int32) (K28 : Int32 → gV → Int32 × gV)  (PK28 : Int32 → gV → Prop)  (x5 : Int32) (s0 : Int32) (v : gV) : Prop := (vp_in (x5 + (1 : Int32)) N) ∧ ((p_X12_writePolicy (xs (x5 + (1 : Int32)).toNatClampNeg) v) ∧ (p_L_law_2965 N xs K28 PK28 x5 s0 ((f_X12_writePolicy (xs (x5 + (1 : Int32)).toNatClampNeg) v).1) (f_X12_writePolicy (xs (x5 + (1 : Int32)).toNatClampNeg) v).2))
set_option maxHeartbeats 4000000 in
set_option maxRecDepth 100000 in
theorem w_L_law_2953 {E : gE} {d : Nat} {Q : gO → gS → Prop} (nf : Nat) (N : Nat) (xs : Nat → Int32) (hN : gva E 201 = N) (hxs : gxs E = xs) (hd : 16 ≤ d) (K28 : Int32 → gV → Int32 × gV)  (PK28 : Int32 → gV → Prop)  (hK28 : ∀ (x5 : Int32) (v : gV), PK28 x5 v → gqIV Q (K28 x5 v) → gG E m_L_law d Q (322 * nf) (2566 * nf) (rS v) 28 [(0, .ref (gva E 200)), (1, .ref (gX E + 0)), (2, .ref (gX E + 559)), (3, .ref (gX E + 570)), (4, .ref (gX E + 571)), (5, .int x5)] [])  (x5 : Int32) (s0 : Int32) (v : gV) (hp : p_L_law_2953 N xs K28 PK28 x5 s0 v) (hQ : gqIV Q (f_L_law_2953 N xs K28 x5 s0 v)) : gG E m_L_law d Q (322 * nf + 0) (2566 * nf + 0) (rS v) 2953 [(0, .ref (gva E 200)), (1, .ref (gX E + 0)), (2, .ref (gX E + 559)), (3, .ref (gX E + 570)), (4, .ref (gX E + 571)), (5, .int x5)] [.int s0] := by
  refine g_istore [(6, .int s0), (0, .ref (gva E 200)), (1, .ref (gX E + 0)), (2, .ref (gX E + 559)), (3, .ref (gX E + 570)), (4, .ref (gX E + 571)), (5, .int x5)] dL_law_2953 (by decide) rfl ?_
  refine g_aload_n 3 dL_law_2955 rfl ?_
  refine g_aload_n 1 dL_law_2956 rfl ?_
  refine g_iload 6 dL_law_2957 rfl ?_
  refine g_iconst dL_law_2959 (1 : Int32) (by decide) ?_
  refine g_iadd dL_law_2960 ?_
  obtain ⟨h449, hp⟩ := hp
  refine g_sld hN hxs h449 dL_law_2961 ?_
  obtain ⟨h450, hp⟩ := hp
  refine g_callV (rest := []) s_L_369_X12 rfl (c_X12_writePolicy (E := E) (d := d - 1)   (by omega) (xs (x5 + (1 : Int32)).toNatClampNeg) v h450) (by decide : kd 559 = (0, 9)) (show 559 < 572 by decide) rfl rfl (Nat.le_of_ble_eq_true rfl) (by omega) (by omega) (by omega) dL_law_2962 (adV ?_) axN
  refine g_room (k' := (322 * nf + 0)) (n' := (2566 * nf + 0)) (by omega) (by omega) ?_
  refine g_lv (lv' := [(0, .ref (gva E 200)), (1, .ref (gX E + 0)), (2, .ref (gX E + 559)), (3, .ref (gX E + 570)), (4, .ref (gX E + 571)), (5, .int x5), (6, .int s0)]) [1, 2, 3, 4, 5, 6, 0] rfl ?_
  exact w_L_law_2965 nf N xs hN hxs hd K28 PK28 hK28 x5 s0 ((f_X12_writePolicy (xs (x5 + (1 : Int32)).toNatClampNeg) v).1) (f_X12_writePolicy (xs (x5 + (1 : Int32)).toNatClampNeg) v).2 hp hQ
def f_L_law_2942 (N : Nat) (xs : Nat → Int32) (K28 : Int32 → gV → Int32 × gV)  (x5 : Int32) (v : gV) : Int32 × gV := f_L_law_2953 N xs K28 x5 ((f_L_writePolicy (xs (x5 + (1 : Int32)).toNatClampNeg) v).1) (f_L_writePolicy (xs (x5 + (1 : Int32)).toNatClampNeg) v).2
def p_L_law_2942 (N : Nat) (xs : Nat → Int32) (K28 : Int32 → gV → Int32 × gV)  (PK28 : Int32 → gV → Prop)  (x5 : Int32) (v : gV) : Prop := (vp_in (x5 + (1 : Int32)) N) ∧ ((p_L_writePolicy (xs (x5 + (1 : Int32)).toNatClampNeg) v) ∧ (p_L_law_2953 N xs K28 PK28 x5 ((f_L_writePolicy (xs (x5 + (1 : Int32)).toNatClampNeg) v).1) (f_L_writePolicy (xs (x5 + (1 : Int32)).toNatClampNeg) v).2))
set_option maxHeartbeats 4000000 in
set_option maxRecDepth 100000 in
theorem w_L_law_2942 {E : gE} {d : Nat} {Q : gO → gS → Prop} (nf : Nat) (N : Nat) (xs : Nat → Int32) (hN : gva E 201 = N) (hxs : gxs E = xs) (hd : 16 ≤ d) (K28 : Int32 → gV → Int32 × gV)  (PK28 : Int32 → gV → Prop)  (hK28 : ∀ (x5 : Int32) (v : gV), PK28 x5 v → gqIV Q (K28 x5 v) → gG E m_L_law d Q (322 * nf) (2566 * nf) (rS v) 28 [(0, .ref (gva E 200)), (1, .ref (gX E + 0)), (2, .ref (gX E + 559)), (3, .ref (gX E + 570)), (4, .ref (gX E + 571)), (5, .int x5)] [])  (x5 : Int32) (v : gV) (hp : p_L_law_2942 N xs K28 PK28 x5 v) (hQ : gqIV Q (f_L_law_2942 N xs K28 x5 v)) : gG E m_L_law d Q (322 * nf + 11) (2566 * nf + 2566) (rS v) 2942 [(0, .ref (gva E 200)), (1, .ref (gX E + 0)), (2, .ref (gX E + 559)), (3, .ref (gX E + 570)), (4, .ref (gX E + 571)), (5, .int x5)] [] := by
  refine g_aload_n 1 dL_law_2942 rfl ?_
  refine g_aload_n 0 dL_law_2943 rfl ?_
  refine g_iload 5 dL_law_2944 rfl ?_
  refine g_iconst dL_law_2946 (1 : Int32) (by decide) ?_
  refine g_iadd dL_law_2947 ?_
  obtain ⟨h447, hp⟩ := hp
  refine g_sld hN hxs h447 dL_law_2948 ?_
  refine g_aload_n 3 dL_law_2949 rfl ?_
  obtain ⟨h448, hp⟩ := hp
  refine g_callT (rest := []) s_L_367 rfl (c_L_writePolicy (E := E) (d := d - 1)   (by omega) (xs (x5 + (1 : Int32)).toNatClampNeg) v h448) cqn rfl rfl (Nat.le_of_ble_eq_true rfl) (by omega) (by omega) (by omega) dL_law_2950 (adV ?_)
  refine g_room (k' := (322 * nf + 0)) (n' := (2566 * nf + 0)) (by omega) (by omega) ?_
  exact w_L_law_2953 nf N xs hN hxs hd K28 PK28 hK28 x5 ((f_L_writePolicy (xs (x5 + (1 : Int32)).toNatClampNeg) v).1) (f_L_writePolicy (xs (x5 + (1 : Int32)).toNatClampNeg) v).2 hp hQ
def f_L_law_3051 (N : Nat) (xs : Nat → Int32) (K28 : Int32 → gV → Int32 × gV)  (x5 : Int32) (v : gV) : Int32 × gV := f_L_law_3401 N xs K28 x5 v
def p_L_law_3051 (N : Nat) (xs : Nat → Int32) (K28 : Int32 → gV → Int32 × gV)  (PK28 : Int32 → gV → Prop)  (x5 : Int32) (v : gV) : Prop := p_L_law_3401 N xs K28 PK28 x5 v
set_option maxHeartbeats 4000000 in
set_option maxRecDepth 100000 in
theorem w_L_law_3051 {E : gE} {d : Nat} {Q : gO → gS → Prop} (nf : Nat) (N : Nat) (xs : Nat → Int32) (hN : gva E 201 = N) (hxs : gxs E = xs) (hd : 16 ≤ d) (K28 : Int32 → gV → Int32 × gV)  (PK28 : Int32 → gV → Prop)  (hK28 : ∀ (x5 : Int32) (v : gV), PK28 x5 v → gqIV Q (K28 x5 v) → gG E m_L_law d Q (322 * nf) (2566 * nf) (rS v) 28 [(0, .ref (gva E 200)), (1, .ref (gX E + 0)), (2, .ref (gX E + 559)), (3, .ref (gX E + 570)), (4, .ref (gX E + 571)), (5, .int x5)] [])  (x5 : Int32) (v : gV) (hp : p_L_law_3051 N xs K28 PK28 x5 v) (hQ : gqIV Q (f_L_law_3051 N xs K28 x5 v)) : gG E m_L_law d Q (322 * nf + 0) (2566 * nf + 0) (rS v) 3051 [(0, .ref (gva E 200)), (1, .ref (gX E + 0)), (2, .ref (gX E + 559)), (3, .ref (gX E + 570)), (4, .ref (gX E + 571)), (5, .int x5)] [] := by
  refine g_goto 3401 dL_law_3051 (by decide) ?_
  refine g_room (k' := (322 * nf + 0)) (n' := (2566 * nf + 0)) (by omega) (by omega) ?_
  exact w_L_law_3401 nf N xs hN hxs hd K28 PK28 hK28 x5 v hp hQ
def f_L_law_3021 (N : Nat) (xs : Nat → Int32) (K28 : Int32 → gV → Int32 × gV)  (x5 : Int32) (x6 : Int32) (s0 : Int32) (v : gV) : Int32 × gV := if (f_X12_thrown  v) = x6 then (if x6 = 0 then (if (lg_cmp (v.2.1 570 (0 : Int32).toNatClampNeg) s0.toInt64) = 0 then (f_L_law_3051 N xs K28 x5 v) else (((0 : Int32), v))) else (f_L_law_3051 N xs K28 x5 v)) else (((0 : Int32), v))
def p_L_law_3021 (N : Nat) (xs : Nat → Int32) (K28 : Int32 → gV → Int32 × gV)  (PK28 : Int32 → gV → Prop)  (x5 : Int32) (x6 : Int32) (s0 : Int32) (v : gV) : Prop := (p_X12_thrown  v) ∧ ((((f_X12_thrown  v) = x6) → (((x6 = 0) → ((((lg_cmp (v.2.1 570 (0 : Int32).toNatClampNeg) s0.toInt64) = 0) → (p_L_law_3051 N xs K28 PK28 x5 v)) ∧ (¬ ((lg_cmp (v.2.1 570 (0 : Int32).toNatClampNeg) s0.toInt64) = 0) → (True)))) ∧ (¬ (x6 = 0) → (p_L_law_3051 N xs K28 PK28 x5 v)))) ∧ (¬ ((f_X12_thrown  v) = x6) → (True)))
set_option maxHeartbeats 4000000 in
set_option maxRecDepth 100000 in
theorem w_L_law_3021 {E : gE} {d : Nat} {Q : gO → gS → Prop} (nf : Nat) (N : Nat) (xs : Nat → Int32) (hN : gva E 201 = N) (hxs : gxs E = xs) (hd : 16 ≤ d) (K28 : Int32 → gV → Int32 × gV)  (PK28 : Int32 → gV → Prop)  (hK28 : ∀ (x5 : Int32) (v : gV), PK28 x5 v → gqIV Q (K28 x5 v) → gG E m_L_law d Q (322 * nf) (2566 * nf) (rS v) 28 [(0, .ref (gva E 200)), (1, .ref (gX E + 0)), (2, .ref (gX E + 559)), (3, .ref (gX E + 570)), (4, .ref (gX E + 571)), (5, .int x5)] [])  (x5 : Int32) (x6 : Int32) (s0 : Int32) (v : gV) (hp : p_L_law_3021 N xs K28 PK28 x5 x6 s0 v) (hQ : gqIV Q (f_L_law_3021 N xs K28 x5 x6 s0 v)) : gG E m_L_law d Q (322 * nf + 0) (2566 * nf + 0) (rS v) 3021 [(0, .ref (gva E 200)), (1, .ref (gX E + 0)), (2, .ref (gX E + 559)), (3, .ref (gX E + 570)), (4, .ref (gX E + 571)), (5, .int x5), (6, .int x6)] [.int s0] := by
  refine g_istore [(7, .int s0), (0, .ref (gva E 200)), (1, .ref (gX E + 0)), (2, .ref (gX E + 559)), (3, .ref (gX E + 570)), (4, .ref (gX E + 571)), (5, .int x5), (6, .int x6)] dL_law_3021 (by decide) rfl ?_
  refine g_aload_n 3 dL_law_3023 rfl ?_
  obtain ⟨h460, hp⟩ := hp
  refine g_callV (rest := []) s_L_193_X12 rfl (c_X12_thrown (E := E) (d := d - 1)   (by omega)  v h460) (by decide : kd 559 = (0, 9)) (show 559 < 572 by decide) rfl rfl (Nat.le_of_ble_eq_true rfl) (by omega) (by omega) (by omega) dL_law_3024 (adV ?_) axN
  refine g_iload 7 dL_law_3027 rfl ?_
  refine g_icmp_eq 3034 dL_law_3029 (by decide) (fun h461 => ?_) (fun h461 => ?_)
  · have hQ := qp (P := gqIV Q) h461 hQ
    have hp := hp.1 h461
    refine g_iload 7 dL_law_3034 rfl ?_
    refine g_if_ne 3051 dL_law_3036 (by decide) (fun h462 => ?_) (fun h462 => ?_)
    · have hQ := qn (P := gqIV Q) h462 hQ
      have hp := hp.2 h462
      refine g_room (k' := (322 * nf + 0)) (n' := (2566 * nf + 0)) (by omega) (by omega) ?_
      refine g_lv (lv' := [(0, .ref (gva E 200)), (1, .ref (gX E + 0)), (2, .ref (gX E + 559)), (3, .ref (gX E + 570)), (4, .ref (gX E + 571)), (5, .int x5)]) [1, 2, 3, 4, 5, 6] rfl ?_
      exact w_L_law_3051 nf N xs hN hxs hd K28 PK28 hK28 x5 v hp hQ
    · have hQ := qp (P := gqIV Q) h462 hQ
      have hp := hp.1 h462
      refine g_aload_n 4 dL_law_3039 rfl ?_
      refine g_iconst dL_law_3040 (0 : Int32) (by decide) ?_
      refine g_lald (by decide : kd 570 = (3, 1)) (show 570 < 572 by decide) (show ¬ (_ ∨ _) by decide) dL_law_3041 ?_
      refine g_iload 0 dL_law_3042 rfl ?_
      refine g_i2l dL_law_3044 ?_
      refine g_lcmp dL_law_3045 ?_
      refine g_if_eq 3051 dL_law_3046 (by decide) (fun h463 => ?_) (fun h463 => ?_)
      · have hQ := qp (P := gqIV Q) h463 hQ
        have hp := hp.1 h463
        refine g_room (k' := (322 * nf + 0)) (n' := (2566 * nf + 0)) (by omega) (by omega) ?_
        refine g_lv (lv' := [(0, .ref (gva E 200)), (1, .ref (gX E + 0)), (2, .ref (gX E + 559)), (3, .ref (gX E + 570)), (4, .ref (gX E + 571)), (5, .int x5)]) [1, 2, 3, 4, 5, 6] rfl ?_
        exact w_L_law_3051 nf N xs hN hxs hd K28 PK28 hK28 x5 v hp hQ
      · have hQ := qn (P := gqIV Q) h463 hQ
        have hp := hp.2 h463
        refine g_iconst dL_law_3049 (0 : Int32) (by decide) ?_
        exact g_zret rfl rfl dL_law_3050 hQ
  · have hQ := qn (P := gqIV Q) h461 hQ
    have hp := hp.2 h461
    refine g_iconst dL_law_3032 (0 : Int32) (by decide) ?_
    exact g_zret rfl rfl dL_law_3033 hQ
def f_L_law_3009 (N : Nat) (xs : Nat → Int32) (K28 : Int32 → gV → Int32 × gV)  (x5 : Int32) (s0 : Int32) (v : gV) : Int32 × gV := f_L_law_3021 N xs K28 x5 s0 ((f_X12_writeClaim (xs (x5 + (1 : Int32)).toNatClampNeg) v).1) (f_X12_writeClaim (xs (x5 + (1 : Int32)).toNatClampNeg) v).2
def p_L_law_3009 (N : Nat) (xs : Nat → Int32) (K28 : Int32 → gV → Int32 × gV)  (PK28 : Int32 → gV → Prop)  (x5 : Int32) (s0 : Int32) (v : gV) : Prop := (vp_in (x5 + (1 : Int32)) N) ∧ ((p_X12_writeClaim (xs (x5 + (1 : Int32)).toNatClampNeg) v) ∧ (p_L_law_3021 N xs K28 PK28 x5 s0 ((f_X12_writeClaim (xs (x5 + (1 : Int32)).toNatClampNeg) v).1) (f_X12_writeClaim (xs (x5 + (1 : Int32)).toNatClampNeg) v).2))
set_option maxHeartbeats 4000000 in
set_option maxRecDepth 100000 in
theorem w_L_law_3009 {E : gE} {d : Nat} {Q : gO → gS → Prop} (nf : Nat) (N : Nat) (xs : Nat → Int32) (hN : gva E 201 = N) (hxs : gxs E = xs) (hd : 16 ≤ d) (K28 : Int32 → gV → Int32 × gV)  (PK28 : Int32 → gV → Prop)  (hK28 : ∀ (x5 : Int32) (v : gV), PK28 x5 v → gqIV Q (K28 x5 v) → gG E m_L_law d Q (322 * nf) (2566 * nf) (rS v) 28 [(0, .ref (gva E 200)), (1, .ref (gX E + 0)), (2, .ref (gX E + 559)), (3, .ref (gX E + 570)), (4, .ref (gX E + 571)), (5, .int x5)] [])  (x5 : Int32) (s0 : Int32) (v : gV) (hp : p_L_law_3009 N xs K28 PK28 x5 s0 v) (hQ : gqIV Q (f_L_law_3009 N xs K28 x5 s0 v)) : gG E m_L_law d Q (322 * nf + 0) (2566 * nf + 0) (rS v) 3009 [(0, .ref (gva E 200)), (1, .ref (gX E + 0)), (2, .ref (gX E + 559)), (3, .ref (gX E + 570)), (4, .ref (gX E + 571)), (5, .int x5)] [.int s0] := by
  refine g_istore [(6, .int s0), (0, .ref (gva E 200)), (1, .ref (gX E + 0)), (2, .ref (gX E + 559)), (3, .ref (gX E + 570)), (4, .ref (gX E + 571)), (5, .int x5)] dL_law_3009 (by decide) rfl ?_
  refine g_aload_n 3 dL_law_3011 rfl ?_
  refine g_aload_n 1 dL_law_3012 rfl ?_
  refine g_iload 6 dL_law_3013 rfl ?_
  refine g_iconst dL_law_3015 (1 : Int32) (by decide) ?_
  refine g_iadd dL_law_3016 ?_
  obtain ⟨h458, hp⟩ := hp
  refine g_sld hN hxs h458 dL_law_3017 ?_
  obtain ⟨h459, hp⟩ := hp
  refine g_callV (rest := []) s_L_372_X12 rfl (c_X12_writeClaim (E := E) (d := d - 1)   (by omega) (xs (x5 + (1 : Int32)).toNatClampNeg) v h459) (by decide : kd 559 = (0, 9)) (show 559 < 572 by decide) rfl rfl (Nat.le_of_ble_eq_true rfl) (by omega) (by omega) (by omega) dL_law_3018 (adV ?_) axN
  refine g_room (k' := (322 * nf + 0)) (n' := (2566 * nf + 0)) (by omega) (by omega) ?_
  refine g_lv (lv' := [(0, .ref (gva E 200)), (1, .ref (gX E + 0)), (2, .ref (gX E + 559)), (3, .ref (gX E + 570)), (4, .ref (gX E + 571)), (5, .int x5), (6, .int s0)]) [1, 2, 3, 4, 5, 6, 0] rfl ?_
  exact w_L_law_3021 nf N xs hN hxs hd K28 PK28 hK28 x5 s0 ((f_X12_writeClaim (xs (x5 + (1 : Int32)).toNatClampNeg) v).1) (f_X12_writeClaim (xs (x5 + (1 : Int32)).toNatClampNeg) v).2 hp hQ
def f_L_law_2998 (N : Nat) (xs : Nat → Int32) (K28 : Int32 → gV → Int32 × gV)  (x5 : Int32) (v : gV) : Int32 × gV := f_L_law_3009 N xs K28 x5 ((f_L_writeClaim (xs (x5 + (1 : Int32)).toNatClampNeg) v).1) (f_L_writeClaim (xs (x5 + (1 : Int32)).toNatClampNeg) v).2
def p_L_law_2998 (N : Nat) (xs : Nat → Int32) (K28 : Int32 → gV → Int32 × gV)  (PK28 : Int32 → gV → Prop)  (x5 : Int32) (v : gV) : Prop := (vp_in (x5 + (1 : Int32)) N) ∧ ((p_L_writeClaim (xs (x5 + (1 : Int32)).toNatClampNeg) v) ∧ (p_L_law_3009 N xs K28 PK28 x5 ((f_L_writeClaim (xs (x5 + (1 : Int32)).toNatClampNeg) v).1) (f_L_writeClaim (xs (x5 + (1 : Int32)).toNatClampNeg) v).2))
set_option maxHeartbeats 4000000 in
set_option maxRecDepth 100000 in
theorem w_L_law_2998 {E : gE} {d : Nat} {Q : gO → gS → Prop} (nf : Nat) (N : Nat) (xs : Nat → Int32) (hN : gva E 201 = N) (hxs : gxs E = xs) (hd : 16 ≤ d) (K28 : Int32 → gV → Int32 × gV)  (PK28 : Int32 → gV → Prop)  (hK28 : ∀ (x5 : Int32) (v : gV), PK28 x5 v → gqIV Q (K28 x5 v) → gG E m_L_law d Q (322 * nf) (2566 * nf) (rS v) 28 [(0, .ref (gva E 200)), (1, .ref (gX E + 0)), (2, .ref (gX E + 559)), (3, .ref (gX E + 570)), (4, .ref (gX E + 571)), (5, .int x5)] [])  (x5 : Int32) (v : gV) (hp : p_L_law_2998 N xs K28 PK28 x5 v) (hQ : gqIV Q (f_L_law_2998 N xs K28 x5 v)) : gG E m_L_law d Q (322 * nf + 9) (2566 * nf + 2054) (rS v) 2998 [(0, .ref (gva E 200)), (1, .ref (gX E + 0)), (2, .ref (gX E + 559)), (3, .ref (gX E + 570)), (4, .ref (gX E + 571)), (5, .int x5)] [] := by
  refine g_aload_n 1 dL_law_2998 rfl ?_
  refine g_aload_n 0 dL_law_2999 rfl ?_
  refine g_iload 5 dL_law_3000 rfl ?_
  refine g_iconst dL_law_3002 (1 : Int32) (by decide) ?_
  refine g_iadd dL_law_3003 ?_
  obtain ⟨h456, hp⟩ := hp
  refine g_sld hN hxs h456 dL_law_3004 ?_
  refine g_aload_n 3 dL_law_3005 rfl ?_
  obtain ⟨h457, hp⟩ := hp
  refine g_callT (rest := []) s_L_370 rfl (c_L_writeClaim (E := E) (d := d - 1)   (by omega) (xs (x5 + (1 : Int32)).toNatClampNeg) v h457) cqn rfl rfl (Nat.le_of_ble_eq_true rfl) (by omega) (by omega) (by omega) dL_law_3006 (adV ?_)
  refine g_room (k' := (322 * nf + 0)) (n' := (2566 * nf + 0)) (by omega) (by omega) ?_
  exact w_L_law_3009 nf N xs hN hxs hd K28 PK28 hK28 x5 ((f_L_writeClaim (xs (x5 + (1 : Int32)).toNatClampNeg) v).1) (f_L_writeClaim (xs (x5 + (1 : Int32)).toNatClampNeg) v).2 hp hQ
def f_L_law_3107 (N : Nat) (xs : Nat → Int32) (K28 : Int32 → gV → Int32 × gV)  (x5 : Int32) (v : gV) : Int32 × gV := f_L_law_3401 N xs K28 x5 v
def p_L_law_3107 (N : Nat) (xs : Nat → Int32) (K28 : Int32 → gV → Int32 × gV)  (PK28 : Int32 → gV → Prop)  (x5 : Int32) (v : gV) : Prop := p_L_law_3401 N xs K28 PK28 x5 v
set_option maxHeartbeats 4000000 in
set_option maxRecDepth 100000 in
theorem w_L_law_3107 {E : gE} {d : Nat} {Q : gO → gS → Prop} (nf : Nat) (N : Nat) (xs : Nat → Int32) (hN : gva E 201 = N) (hxs : gxs E = xs) (hd : 16 ≤ d) (K28 : Int32 → gV → Int32 × gV)  (PK28 : Int32 → gV → Prop)  (hK28 : ∀ (x5 : Int32) (v : gV), PK28 x5 v → gqIV Q (K28 x5 v) → gG E m_L_law d Q (322 * nf) (2566 * nf) (rS v) 28 [(0, .ref (gva E 200)), (1, .ref (gX E + 0)), (2, .ref (gX E + 559)), (3, .ref (gX E + 570)), (4, .ref (gX E + 571)), (5, .int x5)] [])  (x5 : Int32) (v : gV) (hp : p_L_law_3107 N xs K28 PK28 x5 v) (hQ : gqIV Q (f_L_law_3107 N xs K28 x5 v)) : gG E m_L_law d Q (322 * nf + 0) (2566 * nf + 0) (rS v) 3107 [(0, .ref (gva E 200)), (1, .ref (gX E + 0)), (2, .ref (gX E + 559)), (3, .ref (gX E + 570)), (4, .ref (gX E + 571)), (5, .int x5)] [] := by
  refine g_goto 3401 dL_law_3107 (by decide) ?_
  refine g_room (k' := (322 * nf + 0)) (n' := (2566 * nf + 0)) (by omega) (by omega) ?_
  exact w_L_law_3401 nf N xs hN hxs hd K28 PK28 hK28 x5 v hp hQ
def f_L_law_3077 (N : Nat) (xs : Nat → Int32) (K28 : Int32 → gV → Int32 × gV)  (x5 : Int32) (x6 : Int32) (s0 : Int32) (v : gV) : Int32 × gV := if (f_X12_thrown  v) = x6 then (if x6 = 0 then (if (lg_cmp (v.2.1 570 (0 : Int32).toNatClampNeg) s0.toInt64) = 0 then (f_L_law_3107 N xs K28 x5 v) else (((0 : Int32), v))) else (f_L_law_3107 N xs K28 x5 v)) else (((0 : Int32), v))
def p_L_law_3077 (N : Nat) (xs : Nat → Int32) (K28 : Int32 → gV → Int32 × gV)  (PK28 : Int32 → gV → Prop)  (x5 : Int32) (x6 : Int32) (s0 : Int32) (v : gV) : Prop := (p_X12_thrown  v) ∧ ((((f_X12_thrown  v) = x6) → (((x6 = 0) → ((((lg_cmp (v.2.1 570 (0 : Int32).toNatClampNeg) s0.toInt64) = 0) → (p_L_law_3107 N xs K28 PK28 x5 v)) ∧ (¬ ((lg_cmp (v.2.1 570 (0 : Int32).toNatClampNeg) s0.toInt64) = 0) → (True)))) ∧ (¬ (x6 = 0) → (p_L_law_3107 N xs K28 PK28 x5 v)))) ∧ (¬ ((f_X12_thrown  v) = x6) → (True)))
set_option maxHeartbeats 4000000 in
set_option maxRecDepth 100000 in
theorem w_L_law_3077 {E : gE} {d : Nat} {Q : gO → gS → Prop} (nf : Nat) (N : Nat) (xs : Nat → Int32) (hN : gva E 201 = N) (hxs : gxs E = xs) (hd : 16 ≤ d) (K28 : Int32 → gV → Int32 × gV)  (PK28 : Int32 → gV → Prop)  (hK28 : ∀ (x5 : Int32) (v : gV), PK28 x5 v → gqIV Q (K28 x5 v) → gG E m_L_law d Q (322 * nf) (2566 * nf) (rS v) 28 [(0, .ref (gva E 200)), (1, .ref (gX E + 0)), (2, .ref (gX E + 559)), (3, .ref (gX E + 570)), (4, .ref (gX E + 571)), (5, .int x5)] [])  (x5 : Int32) (x6 : Int32) (s0 : Int32) (v : gV) (hp : p_L_law_3077 N xs K28 PK28 x5 x6 s0 v) (hQ : gqIV Q (f_L_law_3077 N xs K28 x5 x6 s0 v)) : gG E m_L_law d Q (322 * nf + 0) (2566 * nf + 0) (rS v) 3077 [(0, .ref (gva E 200)), (1, .ref (gX E + 0)), (2, .ref (gX E + 559)), (3, .ref (gX E + 570)), (4, .ref (gX E + 571)), (5, .int x5), (6, .int x6)] [.int s0] := by
  refine g_istore [(7, .int s0), (0, .ref (gva E 200)), (1, .ref (gX E + 0)), (2, .ref (gX E + 559)), (3, .ref (gX E + 570)), (4, .ref (gX E + 571)), (5, .int x5), (6, .int x6)] dL_law_3077 (by decide) rfl ?_
  refine g_aload_n 3 dL_law_3079 rfl ?_
  obtain ⟨h469, hp⟩ := hp
  refine g_callV (rest := []) s_L_193_X12 rfl (c_X12_thrown (E := E) (d := d - 1)   (by omega)  v h469) (by decide : kd 559 = (0, 9)) (show 559 < 572 by decide) rfl rfl (Nat.le_of_ble_eq_true rfl) (by omega) (by omega) (by omega) dL_law_3080 (adV ?_) axN
  refine g_iload 7 dL_law_3083 rfl ?_
  refine g_icmp_eq 3090 dL_law_3085 (by decide) (fun h470 => ?_) (fun h470 => ?_)
  · have hQ := qp (P := gqIV Q) h470 hQ
    have hp := hp.1 h470
    refine g_iload 7 dL_law_3090 rfl ?_
    refine g_if_ne 3107 dL_law_3092 (by decide) (fun h471 => ?_) (fun h471 => ?_)
    · have hQ := qn (P := gqIV Q) h471 hQ
      have hp := hp.2 h471
      refine g_room (k' := (322 * nf + 0)) (n' := (2566 * nf + 0)) (by omega) (by omega) ?_
      refine g_lv (lv' := [(0, .ref (gva E 200)), (1, .ref (gX E + 0)), (2, .ref (gX E + 559)), (3, .ref (gX E + 570)), (4, .ref (gX E + 571)), (5, .int x5)]) [1, 2, 3, 4, 5, 6] rfl ?_
      exact w_L_law_3107 nf N xs hN hxs hd K28 PK28 hK28 x5 v hp hQ
    · have hQ := qp (P := gqIV Q) h471 hQ
      have hp := hp.1 h471
      refine g_aload_n 4 dL_law_3095 rfl ?_
      refine g_iconst dL_law_3096 (0 : Int32) (by decide) ?_
      refine g_lald (by decide : kd 570 = (3, 1)) (show 570 < 572 by decide) (show ¬ (_ ∨ _) by decide) dL_law_3097 ?_
      refine g_iload 0 dL_law_3098 rfl ?_
      refine g_i2l dL_law_3100 ?_
      refine g_lcmp dL_law_3101 ?_
      refine g_if_eq 3107 dL_law_3102 (by decide) (fun h472 => ?_) (fun h472 => ?_)
      · have hQ := qp (P := gqIV Q) h472 hQ
        have hp := hp.1 h472
        refine g_room (k' := (322 * nf + 0)) (n' := (2566 * nf + 0)) (by omega) (by omega) ?_
        refine g_lv (lv' := [(0, .ref (gva E 200)), (1, .ref (gX E + 0)), (2, .ref (gX E + 559)), (3, .ref (gX E + 570)), (4, .ref (gX E + 571)), (5, .int x5)]) [1, 2, 3, 4, 5, 6] rfl ?_
        exact w_L_law_3107 nf N xs hN hxs hd K28 PK28 hK28 x5 v hp hQ
      · have hQ := qn (P := gqIV Q) h472 hQ
        have hp := hp.2 h472
        refine g_iconst dL_law_3105 (0 : Int32) (by decide) ?_
        exact g_zret rfl rfl dL_law_3106 hQ
  · have hQ := qn (P := gqIV Q) h470 hQ
    have hp := hp.2 h470
    refine g_iconst dL_law_3088 (0 : Int32) (by decide) ?_
    exact g_zret rfl rfl dL_law_3089 hQ
def f_L_law_3065 (N : Nat) (xs : Nat → Int32) (K28 : Int32 → gV → Int32 × gV)  (x5 : Int32) (s0 : Int32) (v : gV) : Int32 × gV := f_L_law_3077 N xs K28 x5 s0 ((f_X12_outputAt (xs (x5 + (1 : Int32)).toNatClampNeg) v).1) (f_X12_outputAt (xs (x5 + (1 : Int32)).toNatClampNeg) v).2
def p_L_law_3065 (N : Nat) (xs : Nat → Int32) (K28 : Int32 → gV → Int32 × gV)  (PK28 : Int32 → gV → Prop)  (x5 : Int32) (s0 : Int32) (v : gV) : Prop := (vp_in (x5 + (1 : Int32)) N) ∧ ((p_X12_outputAt (xs (x5 + (1 : Int32)).toNatClampNeg) v) ∧ (p_L_law_3077 N xs K28 PK28 x5 s0 ((f_X12_outputAt (xs (x5 + (1 : Int32)).toNatClampNeg) v).1) (f_X12_outputAt (xs (x5 + (1 : Int32)).toNatClampNeg) v).2))
set_option maxHeartbeats 4000000 in
set_option maxRecDepth 100000 in
theorem w_L_law_3065 {E : gE} {d : Nat} {Q : gO → gS → Prop} (nf : Nat) (N : Nat) (xs : Nat → Int32) (hN : gva E 201 = N) (hxs : gxs E = xs) (hd : 16 ≤ d) (K28 : Int32 → gV → Int32 × gV)  (PK28 : Int32 → gV → Prop)  (hK28 : ∀ (x5 : Int32) (v : gV), PK28 x5 v → gqIV Q (K28 x5 v) → gG E m_L_law d Q (322 * nf) (2566 * nf) (rS v) 28 [(0, .ref (gva E 200)), (1, .ref (gX E + 0)), (2, .ref (gX E + 559)), (3, .ref (gX E + 570)), (4, .ref (gX E + 571)), (5, .int x5)] [])  (x5 : Int32) (s0 : Int32) (v : gV) (hp : p_L_law_3065 N xs K28 PK28 x5 s0 v) (hQ : gqIV Q (f_L_law_3065 N xs K28 x5 s0 v)) : gG E m_L_law d Q (322 * nf + 0) (2566 * nf + 0) (rS v) 3065 [(0, .ref (gva E 200)), (1, .ref (gX E + 0)), (2, .ref (gX E + 559)), (3, .ref (gX E + 570)), (4, .ref (gX E + 571)), (5, .int x5)] [.int s0] := by
  refine g_istore [(6, .int s0), (0, .ref (gva E 200)), (1, .ref (gX E + 0)), (2, .ref (gX E + 559)), (3, .ref (gX E + 570)), (4, .ref (gX E + 571)), (5, .int x5)] dL_law_3065 (by decide) rfl ?_
  refine g_aload_n 3 dL_law_3067 rfl ?_
  refine g_aload_n 1 dL_law_3068 rfl ?_
  refine g_iload 6 dL_law_3069 rfl ?_
  refine g_iconst dL_law_3071 (1 : Int32) (by decide) ?_
  refine g_iadd dL_law_3072 ?_
  obtain ⟨h467, hp⟩ := hp
  refine g_sld hN hxs h467 dL_law_3073 ?_
  obtain ⟨h468, hp⟩ := hp
  refine g_callV (rest := []) s_L_375_X12 rfl (c_X12_outputAt (E := E) (d := d - 1)   (by omega) (xs (x5 + (1 : Int32)).toNatClampNeg) v h468) (by decide : kd 559 = (0, 9)) (show 559 < 572 by decide) rfl rfl (Nat.le_of_ble_eq_true rfl) (by omega) (by omega) (by omega) dL_law_3074 (adV ?_) axN
  refine g_room (k' := (322 * nf + 0)) (n' := (2566 * nf + 0)) (by omega) (by omega) ?_
  refine g_lv (lv' := [(0, .ref (gva E 200)), (1, .ref (gX E + 0)), (2, .ref (gX E + 559)), (3, .ref (gX E + 570)), (4, .ref (gX E + 571)), (5, .int x5), (6, .int s0)]) [1, 2, 3, 4, 5, 6, 0] rfl ?_
  exact w_L_law_3077 nf N xs hN hxs hd K28 PK28 hK28 x5 s0 ((f_X12_outputAt (xs (x5 + (1 : Int32)).toNatClampNeg) v).1) (f_X12_outputAt (xs (x5 + (1 : Int32)).toNatClampNeg) v).2 hp hQ
def f_L_law_3054 (N : Nat) (xs : Nat → Int32) (K28 : Int32 → gV → Int32 × gV)  (x5 : Int32) (v : gV) : Int32 × gV := f_L_law_3065 N xs K28 x5 ((f_L_outputAt (xs (x5 + (1 : Int32)).toNatClampNeg) v).1) (f_L_outputAt (xs (x5 + (1 : Int32)).toNatClampNeg) v).2
def p_L_law_3054 (N : Nat) (xs : Nat → Int32) (K28 : Int32 → gV → Int32 × gV)  (PK28 : Int32 → gV → Prop)  (x5 : Int32) (v : gV) : Prop := (vp_in (x5 + (1 : Int32)) N) ∧ ((p_L_outputAt (xs (x5 + (1 : Int32)).toNatClampNeg) v) ∧ (p_L_law_3065 N xs K28 PK28 x5 ((f_L_outputAt (xs (x5 + (1 : Int32)).toNatClampNeg) v).1) (f_L_outputAt (xs (x5 + (1 : Int32)).toNatClampNeg) v).2))
set_option maxHeartbeats 4000000 in
set_option maxRecDepth 100000 in
theorem w_L_law_3054 {E : gE} {d : Nat} {Q : gO → gS → Prop} (nf : Nat) (N : Nat) (xs : Nat → Int32) (hN : gva E 201 = N) (hxs : gxs E = xs) (hd : 16 ≤ d) (K28 : Int32 → gV → Int32 × gV)  (PK28 : Int32 → gV → Prop)  (hK28 : ∀ (x5 : Int32) (v : gV), PK28 x5 v → gqIV Q (K28 x5 v) → gG E m_L_law d Q (322 * nf) (2566 * nf) (rS v) 28 [(0, .ref (gva E 200)), (1, .ref (gX E + 0)), (2, .ref (gX E + 559)), (3, .ref (gX E + 570)), (4, .ref (gX E + 571)), (5, .int x5)] [])  (x5 : Int32) (v : gV) (hp : p_L_law_3054 N xs K28 PK28 x5 v) (hQ : gqIV Q (f_L_law_3054 N xs K28 x5 v)) : gG E m_L_law d Q (322 * nf + 1) (2566 * nf + 6) (rS v) 3054 [(0, .ref (gva E 200)), (1, .ref (gX E + 0)), (2, .ref (gX E + 559)), (3, .ref (gX E + 570)), (4, .ref (gX E + 571)), (5, .int x5)] [] := by
  refine g_aload_n 1 dL_law_3054 rfl ?_
  refine g_aload_n 0 dL_law_3055 rfl ?_
  refine g_iload 5 dL_law_3056 rfl ?_
  refine g_iconst dL_law_3058 (1 : Int32) (by decide) ?_
  refine g_iadd dL_law_3059 ?_
  obtain ⟨h465, hp⟩ := hp
  refine g_sld hN hxs h465 dL_law_3060 ?_
  refine g_aload_n 3 dL_law_3061 rfl ?_
  obtain ⟨h466, hp⟩ := hp
  refine g_callT (rest := []) s_L_373 rfl (c_L_outputAt (E := E) (d := d - 1)   (by omega) (xs (x5 + (1 : Int32)).toNatClampNeg) v h466) cqn rfl rfl (Nat.le_of_ble_eq_true rfl) (by omega) (by omega) (by omega) dL_law_3062 (adV ?_)
  refine g_room (k' := (322 * nf + 0)) (n' := (2566 * nf + 0)) (by omega) (by omega) ?_
  exact w_L_law_3065 nf N xs hN hxs hd K28 PK28 hK28 x5 ((f_L_outputAt (xs (x5 + (1 : Int32)).toNatClampNeg) v).1) (f_L_outputAt (xs (x5 + (1 : Int32)).toNatClampNeg) v).2 hp hQ
def f_L_law_3165 (N : Nat) (xs : Nat → Int32) (K28 : Int32 → gV → Int32 × gV)  (x5 : Int32) (v : gV) : Int32 × gV := f_L_law_3401 N xs K28 x5 v
def p_L_law_3165 (N : Nat) (xs : Nat → Int32) (K28 : Int32 → gV → Int32 × gV)  (PK28 : Int32 → gV → Prop)  (x5 : Int32) (v : gV) : Prop := p_L_law_3401 N xs K28 PK28 x5 v
set_option maxHeartbeats 4000000 in
set_option maxRecDepth 100000 in
theorem w_L_law_3165 {E : gE} {d : Nat} {Q : gO → gS → Prop} (nf : Nat) (N : Nat) (xs : Nat → Int32) (hN : gva E 201 = N) (hxs : gxs E = xs) (hd : 16 ≤ d) (K28 : Int32 → gV → Int32 × gV)  (PK28 : Int32 → gV → Prop)  (hK28 : ∀ (x5 : Int32) (v : gV), PK28 x5 v → gqIV Q (K28 x5 v) → gG E m_L_law d Q (322 * nf) (2566 * nf) (rS v) 28 [(0, .ref (gva E 200)), (1, .ref (gX E + 0)), (2, .ref (gX E + 559)), (3, .ref (gX E + 570)), (4, .ref (gX E + 571)), (5, .int x5)] [])  (x5 : Int32) (v : gV) (hp : p_L_law_3165 N xs K28 PK28 x5 v) (hQ : gqIV Q (f_L_law_3165 N xs K28 x5 v)) : gG E m_L_law d Q (322 * nf + 0) (2566 * nf + 0) (rS v) 3165 [(0, .ref (gva E 200)), (1, .ref (gX E + 0)), (2, .ref (gX E + 559)), (3, .ref (gX E + 570)), (4, .ref (gX E + 571)), (5, .int x5)] [] := by
  refine g_goto 3401 dL_law_3165 (by decide) ?_
  refine g_room (k' := (322 * nf + 0)) (n' := (2566 * nf + 0)) (by omega) (by omega) ?_
  exact w_L_law_3401 nf N xs hN hxs hd K28 PK28 hK28 x5 v hp hQ
def f_L_law_3135 (N : Nat) (xs : Nat → Int32) (K28 : Int32 → gV → Int32 × gV)  (x5 : Int32) (x6 : Int32) (s0 : Int32) (v : gV) : Int32 × gV := if (f_X12_thrown  v) = x6 then (if x6 = 0 then (if (lg_cmp (v.2.1 570 (0 : Int32).toNatClampNeg) s0.toInt64) = 0 then (f_L_law_3165 N xs K28 x5 v) else (((0 : Int32), v))) else (f_L_law_3165 N xs K28 x5 v)) else (((0 : Int32), v))
def p_L_law_3135 (N : Nat) (xs : Nat → Int32) (K28 : Int32 → gV → Int32 × gV)  (PK28 : Int32 → gV → Prop)  (x5 : Int32) (x6 : Int32) (s0 : Int32) (v : gV) : Prop := (p_X12_thrown  v) ∧ ((((f_X12_thrown  v) = x6) → (((x6 = 0) → ((((lg_cmp (v.2.1 570 (0 : Int32).toNatClampNeg) s0.toInt64) = 0) → (p_L_law_3165 N xs K28 PK28 x5 v)) ∧ (¬ ((lg_cmp (v.2.1 570 (0 : Int32).toNatClampNeg) s0.toInt64) = 0) → (True)))) ∧ (¬ (x6 = 0) → (p_L_law_3165 N xs K28 PK28 x5 v)))) ∧ (¬ ((f_X12_thrown  v) = x6) → (True)))
set_option maxHeartbeats 4000000 in
set_option maxRecDepth 100000 in
theorem w_L_law_3135 {E : gE} {d : Nat} {Q : gO → gS → Prop} (nf : Nat) (N : Nat) (xs : Nat → Int32) (hN : gva E 201 = N) (hxs : gxs E = xs) (hd : 16 ≤ d) (K28 : Int32 → gV → Int32 × gV)  (PK28 : Int32 → gV → Prop)  (hK28 : ∀ (x5 : Int32) (v : gV), PK28 x5 v → gqIV Q (K28 x5 v) → gG E m_L_law d Q (322 * nf) (2566 * nf) (rS v) 28 [(0, .ref (gva E 200)), (1, .ref (gX E + 0)), (2, .ref (gX E + 559)), (3, .ref (gX E + 570)), (4, .ref (gX E + 571)), (5, .int x5)] [])  (x5 : Int32) (x6 : Int32) (s0 : Int32) (v : gV) (hp : p_L_law_3135 N xs K28 PK28 x5 x6 s0 v) (hQ : gqIV Q (f_L_law_3135 N xs K28 x5 x6 s0 v)) : gG E m_L_law d Q (322 * nf + 0) (2566 * nf + 0) (rS v) 3135 [(0, .ref (gva E 200)), (1, .ref (gX E + 0)), (2, .ref (gX E + 559)), (3, .ref (gX E + 570)), (4, .ref (gX E + 571)), (5, .int x5), (6, .int x6)] [.int s0] := by
  refine g_istore [(7, .int s0), (0, .ref (gva E 200)), (1, .ref (gX E + 0)), (2, .ref (gX E + 559)), (3, .ref (gX E + 570)), (4, .ref (gX E + 571)), (5, .int x5), (6, .int x6)] dL_law_3135 (by decide) rfl ?_
  refine g_aload_n 3 dL_law_3137 rfl ?_
  obtain ⟨h478, hp⟩ := hp
  refine g_callV (rest := []) s_L_193_X12 rfl (c_X12_thrown (E := E) (d := d - 1)   (by omega)  v h478) (by decide : kd 559 = (0, 9)) (show 559 < 572 by decide) rfl rfl (Nat.le_of_ble_eq_true rfl) (by omega) (by omega) (by omega) dL_law_3138 (adV ?_) axN
  refine g_iload 7 dL_law_3141 rfl ?_
  refine g_icmp_eq 3148 dL_law_3143 (by decide) (fun h479 => ?_) (fun h479 => ?_)
  · have hQ := qp (P := gqIV Q) h479 hQ
    have hp := hp.1 h479
    refine g_iload 7 dL_law_3148 rfl ?_
    refine g_if_ne 3165 dL_law_3150 (by decide) (fun h480 => ?_) (fun h480 => ?_)
    · have hQ := qn (P := gqIV Q) h480 hQ
      have hp := hp.2 h480
      refine g_room (k' := (322 * nf + 0)) (n' := (2566 * nf + 0)) (by omega) (by omega) ?_
      refine g_lv (lv' := [(0, .ref (gva E 200)), (1, .ref (gX E + 0)), (2, .ref (gX E + 559)), (3, .ref (gX E + 570)), (4, .ref (gX E + 571)), (5, .int x5)]) [1, 2, 3, 4, 5, 6] rfl ?_
      exact w_L_law_3165 nf N xs hN hxs hd K28 PK28 hK28 x5 v hp hQ
    · have hQ := qp (P := gqIV Q) h480 hQ
      have hp := hp.1 h480
      refine g_aload_n 4 dL_law_3153 rfl ?_
      refine g_iconst dL_law_3154 (0 : Int32) (by decide) ?_
      refine g_lald (by decide : kd 570 = (3, 1)) (show 570 < 572 by decide) (show ¬ (_ ∨ _) by decide) dL_law_3155 ?_
      refine g_iload 0 dL_law_3156 rfl ?_
      refine g_i2l dL_law_3158 ?_
      refine g_lcmp dL_law_3159 ?_
      refine g_if_eq 3165 dL_law_3160 (by decide) (fun h481 => ?_) (fun h481 => ?_)
      · have hQ := qp (P := gqIV Q) h481 hQ
        have hp := hp.1 h481
        refine g_room (k' := (322 * nf + 0)) (n' := (2566 * nf + 0)) (by omega) (by omega) ?_
        refine g_lv (lv' := [(0, .ref (gva E 200)), (1, .ref (gX E + 0)), (2, .ref (gX E + 559)), (3, .ref (gX E + 570)), (4, .ref (gX E + 571)), (5, .int x5)]) [1, 2, 3, 4, 5, 6] rfl ?_
        exact w_L_law_3165 nf N xs hN hxs hd K28 PK28 hK28 x5 v hp hQ
      · have hQ := qn (P := gqIV Q) h481 hQ
        have hp := hp.2 h481
        refine g_iconst dL_law_3163 (0 : Int32) (by decide) ?_
        exact g_zret rfl rfl dL_law_3164 hQ
  · have hQ := qn (P := gqIV Q) h479 hQ
    have hp := hp.2 h479
    refine g_iconst dL_law_3146 (0 : Int32) (by decide) ?_
    exact g_zret rfl rfl dL_law_3147 hQ
def f_L_law_3122 (N : Nat) (xs : Nat → Int32) (K28 : Int32 → gV → Int32 × gV)  (x5 : Int32) (s0 : Int32) (v : gV) : Int32 × gV := f_L_law_3135 N xs K28 x5 s0 ((f_X12_type (((xs (x5 + (1 : Int32)).toNatClampNeg).toUInt32 % 65536).toInt32) v).1) (f_X12_type (((xs (x5 + (1 : Int32)).toNatClampNeg).toUInt32 % 65536).toInt32) v).2
def p_L_law_3122 (N : Nat) (xs : Nat → Int32) (K28 : Int32 → gV → Int32 × gV)  (PK28 : Int32 → gV → Prop)  (x5 : Int32) (s0 : Int32) (v : gV) : Prop := (vp_in (x5 + (1 : Int32)) N) ∧ ((p_X12_type (((xs (x5 + (1 : Int32)).toNatClampNeg).toUInt32 % 65536).toInt32) v) ∧ (p_L_law_3135 N xs K28 PK28 x5 s0 ((f_X12_type (((xs (x5 + (1 : Int32)).toNatClampNeg).toUInt32 % 65536).toInt32) v).1) (f_X12_type (((xs (x5 + (1 : Int32)).toNatClampNeg).toUInt32 % 65536).toInt32) v).2))
set_option maxHeartbeats 4000000 in
set_option maxRecDepth 100000 in
theorem w_L_law_3122 {E : gE} {d : Nat} {Q : gO → gS → Prop} (nf : Nat) (N : Nat) (xs : Nat → Int32) (hN : gva E 201 = N) (hxs : gxs E = xs) (hd : 16 ≤ d) (K28 : Int32 → gV → Int32 × gV)  (PK28 : Int32 → gV → Prop)  (hK28 : ∀ (x5 : Int32) (v : gV), PK28 x5 v → gqIV Q (K28 x5 v) → gG E m_L_law d Q (322 * nf) (2566 * nf) (rS v) 28 [(0, .ref (gva E 200)), (1, .ref (gX E + 0)), (2, .ref (gX E + 559)), (3, .ref (gX E + 570)), (4, .ref (gX E + 571)), (5, .int x5)] [])  (x5 : Int32) (s0 : Int32) (v : gV) (hp : p_L_law_3122 N xs K28 PK28 x5 s0 v) (hQ : gqIV Q (f_L_law_3122 N xs K28 x5 s0 v)) : gG E m_L_law d Q (322 * nf + 0) (2566 * nf + 0) (rS v) 3122 [(0, .ref (gva E 200)), (1, .ref (gX E + 0)), (2, .ref (gX E + 559)), (3, .ref (gX E + 570)), (4, .ref (gX E + 571)), (5, .int x5)] [.int s0] := by
  refine g_istore [(6, .int s0), (0, .ref (gva E 200)), (1, .ref (gX E + 0)), (2, .ref (gX E + 559)), (3, .ref (gX E + 570)), (4, .ref (gX E + 571)), (5, .int x5)] dL_law_3122 (by decide) rfl ?_
  refine g_aload_n 3 dL_law_3124 rfl ?_
  refine g_aload_n 1 dL_law_3125 rfl ?_
  refine g_iload 6 dL_law_3126 rfl ?_
  refine g_iconst dL_law_3128 (1 : Int32) (by decide) ?_
  refine g_iadd dL_law_3129 ?_
  obtain ⟨h476, hp⟩ := hp
  refine g_sld hN hxs h476 dL_law_3130 ?_
  refine g_i2c dL_law_3131 ?_
  obtain ⟨h477, hp⟩ := hp
  refine g_callV (rest := []) s_L_379_X12 rfl (c_X12_type (E := E) (d := d - 1)   (by omega) (((xs (x5 + (1 : Int32)).toNatClampNeg).toUInt32 % 65536).toInt32) v h477) (by decide : kd 559 = (0, 9)) (show 559 < 572 by decide) rfl rfl (Nat.le_of_ble_eq_true rfl) (by omega) (by omega) (by omega) dL_law_3132 (adV ?_) axN
  refine g_room (k' := (322 * nf + 0)) (n' := (2566 * nf + 0)) (by omega) (by omega) ?_
  refine g_lv (lv' := [(0, .ref (gva E 200)), (1, .ref (gX E + 0)), (2, .ref (gX E + 559)), (3, .ref (gX E + 570)), (4, .ref (gX E + 571)), (5, .int x5), (6, .int s0)]) [1, 2, 3, 4, 5, 6, 0] rfl ?_
  exact w_L_law_3135 nf N xs hN hxs hd K28 PK28 hK28 x5 s0 ((f_X12_type (((xs (x5 + (1 : Int32)).toNatClampNeg).toUInt32 % 65536).toInt32) v).1) (f_X12_type (((xs (x5 + (1 : Int32)).toNatClampNeg).toUInt32 % 65536).toInt32) v).2 hp hQ
def f_L_law_3110 (N : Nat) (xs : Nat → Int32) (K28 : Int32 → gV → Int32 × gV)  (x5 : Int32) (v : gV) : Int32 × gV := f_L_law_3122 N xs K28 x5 ((f_L_type (((xs (x5 + (1 : Int32)).toNatClampNeg).toUInt32 % 65536).toInt32) v).1) (f_L_type (((xs (x5 + (1 : Int32)).toNatClampNeg).toUInt32 % 65536).toInt32) v).2
def p_L_law_3110 (N : Nat) (xs : Nat → Int32) (K28 : Int32 → gV → Int32 × gV)  (PK28 : Int32 → gV → Prop)  (x5 : Int32) (v : gV) : Prop := (vp_in (x5 + (1 : Int32)) N) ∧ ((p_L_type (((xs (x5 + (1 : Int32)).toNatClampNeg).toUInt32 % 65536).toInt32) v) ∧ (p_L_law_3122 N xs K28 PK28 x5 ((f_L_type (((xs (x5 + (1 : Int32)).toNatClampNeg).toUInt32 % 65536).toInt32) v).1) (f_L_type (((xs (x5 + (1 : Int32)).toNatClampNeg).toUInt32 % 65536).toInt32) v).2))
set_option maxHeartbeats 4000000 in
set_option maxRecDepth 100000 in
theorem w_L_law_3110 {E : gE} {d : Nat} {Q : gO → gS → Prop} (nf : Nat) (N : Nat) (xs : Nat → Int32) (hN : gva E 201 = N) (hxs : gxs E = xs) (hd : 16 ≤ d) (K28 : Int32 → gV → Int32 × gV)  (PK28 : Int32 → gV → Prop)  (hK28 : ∀ (x5 : Int32) (v : gV), PK28 x5 v → gqIV Q (K28 x5 v) → gG E m_L_law d Q (322 * nf) (2566 * nf) (rS v) 28 [(0, .ref (gva E 200)), (1, .ref (gX E + 0)), (2, .ref (gX E + 559)), (3, .ref (gX E + 570)), (4, .ref (gX E + 571)), (5, .int x5)] [])  (x5 : Int32) (v : gV) (hp : p_L_law_3110 N xs K28 PK28 x5 v) (hQ : gqIV Q (f_L_law_3110 N xs K28 x5 v)) : gG E m_L_law d Q (322 * nf + 2) (2566 * nf + 262) (rS v) 3110 [(0, .ref (gva E 200)), (1, .ref (gX E + 0)), (2, .ref (gX E + 559)), (3, .ref (gX E + 570)), (4, .ref (gX E + 571)), (5, .int x5)] [] := by
  refine g_aload_n 1 dL_law_3110 rfl ?_
  refine g_aload_n 0 dL_law_3111 rfl ?_
  refine g_iload 5 dL_law_3112 rfl ?_
  refine g_iconst dL_law_3114 (1 : Int32) (by decide) ?_
  refine g_iadd dL_law_3115 ?_
  obtain ⟨h474, hp⟩ := hp
  refine g_sld hN hxs h474 dL_law_3116 ?_
  refine g_i2c dL_law_3117 ?_
  refine g_aload_n 3 dL_law_3118 rfl ?_
  obtain ⟨h475, hp⟩ := hp
  refine g_callT (rest := []) s_L_376 rfl (c_L_type (E := E) (d := d - 1)   (by omega) (((xs (x5 + (1 : Int32)).toNatClampNeg).toUInt32 % 65536).toInt32) v h475) cqn rfl rfl (Nat.le_of_ble_eq_true rfl) (by omega) (by omega) (by omega) dL_law_3119 (adV ?_)
  refine g_room (k' := (322 * nf + 0)) (n' := (2566 * nf + 0)) (by omega) (by omega) ?_
  exact w_L_law_3122 nf N xs hN hxs hd K28 PK28 hK28 x5 ((f_L_type (((xs (x5 + (1 : Int32)).toNatClampNeg).toUInt32 % 65536).toInt32) v).1) (f_L_type (((xs (x5 + (1 : Int32)).toNatClampNeg).toUInt32 % 65536).toInt32) v).2 hp hQ
def f_L_law_3209 (N : Nat) (xs : Nat → Int32) (K28 : Int32 → gV → Int32 × gV)  (x5 : Int32) (v : gV) : Int32 × gV := f_L_law_3401 N xs K28 x5 v
def p_L_law_3209 (N : Nat) (xs : Nat → Int32) (K28 : Int32 → gV → Int32 × gV)  (PK28 : Int32 → gV → Prop)  (x5 : Int32) (v : gV) : Prop := p_L_law_3401 N xs K28 PK28 x5 v
set_option maxHeartbeats 4000000 in
set_option maxRecDepth 100000 in
theorem w_L_law_3209 {E : gE} {d : Nat} {Q : gO → gS → Prop} (nf : Nat) (N : Nat) (xs : Nat → Int32) (hN : gva E 201 = N) (hxs : gxs E = xs) (hd : 16 ≤ d) (K28 : Int32 → gV → Int32 × gV)  (PK28 : Int32 → gV → Prop)  (hK28 : ∀ (x5 : Int32) (v : gV), PK28 x5 v → gqIV Q (K28 x5 v) → gG E m_L_law d Q (322 * nf) (2566 * nf) (rS v) 28 [(0, .ref (gva E 200)), (1, .ref (gX E + 0)), (2, .ref (gX E + 559)), (3, .ref (gX E + 570)), (4, .ref (gX E + 571)), (5, .int x5)] [])  (x5 : Int32) (v : gV) (hp : p_L_law_3209 N xs K28 PK28 x5 v) (hQ : gqIV Q (f_L_law_3209 N xs K28 x5 v)) : gG E m_L_law d Q (322 * nf + 0) (2566 * nf + 0) (rS v) 3209 [(0, .ref (gva E 200)), (1, .ref (gX E + 0)), (2, .ref (gX E + 559)), (3, .ref (gX E + 570)), (4, .ref (gX E + 571)), (5, .int x5)] [] := by
  refine g_goto 3401 dL_law_3209 (by decide) ?_
  refine g_room (k' := (322 * nf + 0)) (n' := (2566 * nf + 0)) (by omega) (by omega) ?_
  exact w_L_law_3401 nf N xs hN hxs hd K28 PK28 hK28 x5 v hp hQ
def f_L_law_3179 (N : Nat) (xs : Nat → Int32) (K28 : Int32 → gV → Int32 × gV)  (x5 : Int32) (x6 : Int32) (s0 : Int32) (v : gV) : Int32 × gV := if (f_X12_thrown  v) = x6 then (if x6 = 0 then (if (lg_cmp (v.2.1 570 (0 : Int32).toNatClampNeg) s0.toInt64) = 0 then (f_L_law_3209 N xs K28 x5 v) else (((0 : Int32), v))) else (f_L_law_3209 N xs K28 x5 v)) else (((0 : Int32), v))
def p_L_law_3179 (N : Nat) (xs : Nat → Int32) (K28 : Int32 → gV → Int32 × gV)  (PK28 : Int32 → gV → Prop)  (x5 : Int32) (x6 : Int32) (s0 : Int32) (v : gV) : Prop := (p_X12_thrown  v) ∧ ((((f_X12_thrown  v) = x6) → (((x6 = 0) → ((((lg_cmp (v.2.1 570 (0 : Int32).toNatClampNeg) s0.toInt64) = 0) → (p_L_law_3209 N xs K28 PK28 x5 v)) ∧ (¬ ((lg_cmp (v.2.1 570 (0 : Int32).toNatClampNeg) s0.toInt64) = 0) → (True)))) ∧ (¬ (x6 = 0) → (p_L_law_3209 N xs K28 PK28 x5 v)))) ∧ (¬ ((f_X12_thrown  v) = x6) → (True)))
set_option maxHeartbeats 4000000 in
set_option maxRecDepth 100000 in
theorem w_L_law_3179 {E : gE} {d : Nat} {Q : gO → gS → Prop} (nf : Nat) (N : Nat) (xs : Nat → Int32) (hN : gva E 201 = N) (hxs : gxs E = xs) (hd : 16 ≤ d) (K28 : Int32 → gV → Int32 × gV)  (PK28 : Int32 → gV → Prop)  (hK28 : ∀ (x5 : Int32) (v : gV), PK28 x5 v → gqIV Q (K28 x5 v) → gG E m_L_law d Q (322 * nf) (2566 * nf) (rS v) 28 [(0, .ref (gva E 200)), (1, .ref (gX E + 0)), (2, .ref (gX E + 559)), (3, .ref (gX E + 570)), (4, .ref (gX E + 571)), (5, .int x5)] [])  (x5 : Int32) (x6 : Int32) (s0 : Int32) (v : gV) (hp : p_L_law_3179 N xs K28 PK28 x5 x6 s0 v) (hQ : gqIV Q (f_L_law_3179 N xs K28 x5 x6 s0 v)) : gG E m_L_law d Q (322 * nf + 0) (2566 * nf + 0) (rS v) 3179 [(0, .ref (gva E 200)), (1, .ref (gX E + 0)), (2, .ref (gX E + 559)), (3, .ref (gX E + 570)), (4, .ref (gX E + 571)), (5, .int x5), (6, .int x6)] [.int s0] := by
  refine g_istore [(7, .int s0), (0, .ref (gva E 200)), (1, .ref (gX E + 0)), (2, .ref (gX E + 559)), (3, .ref (gX E + 570)), (4, .ref (gX E + 571)), (5, .int x5), (6, .int x6)] dL_law_3179 (by decide) rfl ?_
  refine g_aload_n 3 dL_law_3181 rfl ?_
  obtain ⟨h485, hp⟩ := hp
  refine g_callV (rest := []) s_L_193_X12 rfl (c_X12_thrown (E := E) (d := d - 1)   (by omega)  v h485) (by decide : kd 559 = (0, 9)) (show 559 < 572 by decide) rfl rfl (Nat.le_of_ble_eq_true rfl) (by omega) (by omega) (by omega) dL_law_3182 (adV ?_) axN
  refine g_iload 7 dL_law_3185 rfl ?_
  refine g_icmp_eq 3192 dL_law_3187 (by decide) (fun h486 => ?_) (fun h486 => ?_)
  · have hQ := qp (P := gqIV Q) h486 hQ
    have hp := hp.1 h486
    refine g_iload 7 dL_law_3192 rfl ?_
    refine g_if_ne 3209 dL_law_3194 (by decide) (fun h487 => ?_) (fun h487 => ?_)
    · have hQ := qn (P := gqIV Q) h487 hQ
      have hp := hp.2 h487
      refine g_room (k' := (322 * nf + 0)) (n' := (2566 * nf + 0)) (by omega) (by omega) ?_
      refine g_lv (lv' := [(0, .ref (gva E 200)), (1, .ref (gX E + 0)), (2, .ref (gX E + 559)), (3, .ref (gX E + 570)), (4, .ref (gX E + 571)), (5, .int x5)]) [1, 2, 3, 4, 5, 6] rfl ?_
      exact w_L_law_3209 nf N xs hN hxs hd K28 PK28 hK28 x5 v hp hQ
    · have hQ := qp (P := gqIV Q) h487 hQ
      have hp := hp.1 h487
      refine g_aload_n 4 dL_law_3197 rfl ?_
      refine g_iconst dL_law_3198 (0 : Int32) (by decide) ?_
      refine g_lald (by decide : kd 570 = (3, 1)) (show 570 < 572 by decide) (show ¬ (_ ∨ _) by decide) dL_law_3199 ?_
      refine g_iload 0 dL_law_3200 rfl ?_
      refine g_i2l dL_law_3202 ?_
      refine g_lcmp dL_law_3203 ?_
      refine g_if_eq 3209 dL_law_3204 (by decide) (fun h488 => ?_) (fun h488 => ?_)
      · have hQ := qp (P := gqIV Q) h488 hQ
        have hp := hp.1 h488
        refine g_room (k' := (322 * nf + 0)) (n' := (2566 * nf + 0)) (by omega) (by omega) ?_
        refine g_lv (lv' := [(0, .ref (gva E 200)), (1, .ref (gX E + 0)), (2, .ref (gX E + 559)), (3, .ref (gX E + 570)), (4, .ref (gX E + 571)), (5, .int x5)]) [1, 2, 3, 4, 5, 6] rfl ?_
        exact w_L_law_3209 nf N xs hN hxs hd K28 PK28 hK28 x5 v hp hQ
      · have hQ := qn (P := gqIV Q) h488 hQ
        have hp := hp.2 h488
        refine g_iconst dL_law_3207 (0 : Int32) (by decide) ?_
        exact g_zret rfl rfl dL_law_3208 hQ
  · have hQ := qn (P := gqIV Q) h486 hQ
    have hp := hp.2 h486
    refine g_iconst dL_law_3190 (0 : Int32) (by decide) ?_
    exact g_zret rfl rfl dL_law_3191 hQ
def f_L_law_3173 (N : Nat) (xs : Nat → Int32) (K28 : Int32 → gV → Int32 × gV)  (x5 : Int32) (s0 : Int32) (v : gV) : Int32 × gV := f_L_law_3179 N xs K28 x5 s0 ((f_X12_runScript  v).1) (f_X12_runScript  v).2
def p_L_law_3173 (N : Nat) (xs : Nat → Int32) (K28 : Int32 → gV → Int32 × gV)  (PK28 : Int32 → gV → Prop)  (x5 : Int32) (s0 : Int32) (v : gV) : Prop := (p_X12_runScript  v) ∧ (p_L_law_3179 N xs K28 PK28 x5 s0 ((f_X12_runScript  v).1) (f_X12_runScript  v).2)
set_option maxHeartbeats 4000000 in
set_option maxRecDepth 100000 in
theorem w_L_law_3173 {E : gE} {d : Nat} {Q : gO → gS → Prop} (nf : Nat) (N : Nat) (xs : Nat → Int32) (hN : gva E 201 = N) (hxs : gxs E = xs) (hd : 16 ≤ d) (K28 : Int32 → gV → Int32 × gV)  (PK28 : Int32 → gV → Prop)  (hK28 : ∀ (x5 : Int32) (v : gV), PK28 x5 v → gqIV Q (K28 x5 v) → gG E m_L_law d Q (322 * nf) (2566 * nf) (rS v) 28 [(0, .ref (gva E 200)), (1, .ref (gX E + 0)), (2, .ref (gX E + 559)), (3, .ref (gX E + 570)), (4, .ref (gX E + 571)), (5, .int x5)] [])  (x5 : Int32) (s0 : Int32) (v : gV) (hp : p_L_law_3173 N xs K28 PK28 x5 s0 v) (hQ : gqIV Q (f_L_law_3173 N xs K28 x5 s0 v)) : gG E m_L_law d Q (322 * nf + 0) (2566 * nf + 0) (rS v) 3173 [(0, .ref (gva E 200)), (1, .ref (gX E + 0)), (2, .ref (gX E + 559)), (3, .ref (gX E + 570)), (4, .ref (gX E + 571)), (5, .int x5)] [.int s0] := by
  refine g_istore [(6, .int s0), (0, .ref (gva E 200)), (1, .ref (gX E + 0)), (2, .ref (gX E + 559)), (3, .ref (gX E + 570)), (4, .ref (gX E + 571)), (5, .int x5)] dL_law_3173 (by decide) rfl ?_
  refine g_aload_n 3 dL_law_3175 rfl ?_
  obtain ⟨h484, hp⟩ := hp
  refine g_callV (rest := []) s_L_383_X12 rfl (c_X12_runScript (E := E) (d := d - 1)   (by omega)  v h484) (by decide : kd 559 = (0, 9)) (show 559 < 572 by decide) rfl rfl (Nat.le_of_ble_eq_true rfl) (by omega) (by omega) (by omega) dL_law_3176 (adV ?_) axN
  refine g_room (k' := (322 * nf + 0)) (n' := (2566 * nf + 0)) (by omega) (by omega) ?_
  refine g_lv (lv' := [(0, .ref (gva E 200)), (1, .ref (gX E + 0)), (2, .ref (gX E + 559)), (3, .ref (gX E + 570)), (4, .ref (gX E + 571)), (5, .int x5), (6, .int s0)]) [1, 2, 3, 4, 5, 6, 0] rfl ?_
  exact w_L_law_3179 nf N xs hN hxs hd K28 PK28 hK28 x5 s0 ((f_X12_runScript  v).1) (f_X12_runScript  v).2 hp hQ
def f_L_law_3168 (N : Nat) (xs : Nat → Int32) (K28 : Int32 → gV → Int32 × gV)  (x5 : Int32) (v : gV) : Int32 × gV := f_L_law_3173 N xs K28 x5 ((f_L_runScript  v).1) (f_L_runScript  v).2
def p_L_law_3168 (N : Nat) (xs : Nat → Int32) (K28 : Int32 → gV → Int32 × gV)  (PK28 : Int32 → gV → Prop)  (x5 : Int32) (v : gV) : Prop := (p_L_runScript  v) ∧ (p_L_law_3173 N xs K28 PK28 x5 ((f_L_runScript  v).1) (f_L_runScript  v).2)
set_option maxHeartbeats 4000000 in
set_option maxRecDepth 100000 in
theorem w_L_law_3168 {E : gE} {d : Nat} {Q : gO → gS → Prop} (nf : Nat) (N : Nat) (xs : Nat → Int32) (hN : gva E 201 = N) (hxs : gxs E = xs) (hd : 16 ≤ d) (K28 : Int32 → gV → Int32 × gV)  (PK28 : Int32 → gV → Prop)  (hK28 : ∀ (x5 : Int32) (v : gV), PK28 x5 v → gqIV Q (K28 x5 v) → gG E m_L_law d Q (322 * nf) (2566 * nf) (rS v) 28 [(0, .ref (gva E 200)), (1, .ref (gX E + 0)), (2, .ref (gX E + 559)), (3, .ref (gX E + 570)), (4, .ref (gX E + 571)), (5, .int x5)] [])  (x5 : Int32) (v : gV) (hp : p_L_law_3168 N xs K28 PK28 x5 v) (hQ : gqIV Q (f_L_law_3168 N xs K28 x5 v)) : gG E m_L_law d Q (322 * nf + 322) (2566 * nf + 2182) (rS v) 3168 [(0, .ref (gva E 200)), (1, .ref (gX E + 0)), (2, .ref (gX E + 559)), (3, .ref (gX E + 570)), (4, .ref (gX E + 571)), (5, .int x5)] [] := by
  refine g_aload_n 1 dL_law_3168 rfl ?_
  refine g_aload_n 3 dL_law_3169 rfl ?_
  obtain ⟨h483, hp⟩ := hp
  refine g_callT (rest := []) s_L_380 rfl (c_L_runScript (E := E) (d := d - 1)   (by omega)  v h483) cqn rfl rfl (Nat.le_of_ble_eq_true rfl) (by omega) (by omega) (by omega) dL_law_3170 (adV ?_)
  refine g_room (k' := (322 * nf + 0)) (n' := (2566 * nf + 0)) (by omega) (by omega) ?_
  exact w_L_law_3173 nf N xs hN hxs hd K28 PK28 hK28 x5 ((f_L_runScript  v).1) (f_L_runScript  v).2 hp hQ
def f_L_law_3253 (N : Nat) (xs : Nat → Int32) (K28 : Int32 → gV → Int32 × gV)  (x5 : Int32) (v : gV) : Int32 × gV := f_L_law_3401 N xs K28 x5 v
def p_L_law_3253 (N : Nat) (xs : Nat → Int32) (K28 : Int32 → gV → Int32 × gV)  (PK28 : Int32 → gV → Prop)  (x5 : Int32) (v : gV) : Prop := p_L_law_3401 N xs K28 PK28 x5 v
set_option maxHeartbeats 4000000 in
set_option maxRecDepth 100000 in
theorem w_L_law_3253 {E : gE} {d : Nat} {Q : gO → gS → Prop} (nf : Nat) (N : Nat) (xs : Nat → Int32) (hN : gva E 201 = N) (hxs : gxs E = xs) (hd : 16 ≤ d) (K28 : Int32 → gV → Int32 × gV)  (PK28 : Int32 → gV → Prop)  (hK28 : ∀ (x5 : Int32) (v : gV), PK28 x5 v → gqIV Q (K28 x5 v) → gG E m_L_law d Q (322 * nf) (2566 * nf) (rS v) 28 [(0, .ref (gva E 200)), (1, .ref (gX E + 0)), (2, .ref (gX E + 559)), (3, .ref (gX E + 570)), (4, .ref (gX E + 571)), (5, .int x5)] [])  (x5 : Int32) (v : gV) (hp : p_L_law_3253 N xs K28 PK28 x5 v) (hQ : gqIV Q (f_L_law_3253 N xs K28 x5 v)) : gG E m_L_law d Q (322 * nf + 0) (2566 * nf + 0) (rS v) 3253 [(0, .ref (gva E 200)), (1, .ref (gX E + 0)), (2, .ref (gX E + 559)), (3, .ref (gX E + 570)), (4, .ref (gX E + 571)), (5, .int x5)] [] := by
  refine g_goto 3401 dL_law_3253 (by decide) ?_
  refine g_room (k' := (322 * nf + 0)) (n' := (2566 * nf + 0)) (by omega) (by omega) ?_
  exact w_L_law_3401 nf N xs hN hxs hd K28 PK28 hK28 x5 v hp hQ
def f_L_law_3223 (N : Nat) (xs : Nat → Int32) (K28 : Int32 → gV → Int32 × gV)  (x5 : Int32) (x6 : Int32) (s0 : Int32) (v : gV) : Int32 × gV := if (f_X12_thrown  v) = x6 then (if x6 = 0 then (if (lg_cmp (v.2.1 570 (0 : Int32).toNatClampNeg) s0.toInt64) = 0 then (f_L_law_3253 N xs K28 x5 v) else (((0 : Int32), v))) else (f_L_law_3253 N xs K28 x5 v)) else (((0 : Int32), v))
def p_L_law_3223 (N : Nat) (xs : Nat → Int32) (K28 : Int32 → gV → Int32 × gV)  (PK28 : Int32 → gV → Prop)  (x5 : Int32) (x6 : Int32) (s0 : Int32) (v : gV) : Prop := (p_X12_thrown  v) ∧ ((((f_X12_thrown  v) = x6) → (((x6 = 0) → ((((lg_cmp (v.2.1 570 (0 : Int32).toNatClampNeg) s0.toInt64) = 0) → (p_L_law_3253 N xs K28 PK28 x5 v)) ∧ (¬ ((lg_cmp (v.2.1 570 (0 : Int32).toNatClampNeg) s0.toInt64) = 0) → (True)))) ∧ (¬ (x6 = 0) → (p_L_law_3253 N xs K28 PK28 x5 v)))) ∧ (¬ ((f_X12_thrown  v) = x6) → (True)))
set_option maxHeartbeats 4000000 in
set_option maxRecDepth 100000 in
theorem w_L_law_3223 {E : gE} {d : Nat} {Q : gO → gS → Prop} (nf : Nat) (N : Nat) (xs : Nat → Int32) (hN : gva E 201 = N) (hxs : gxs E = xs) (hd : 16 ≤ d) (K28 : Int32 → gV → Int32 × gV)  (PK28 : Int32 → gV → Prop)  (hK28 : ∀ (x5 : Int32) (v : gV), PK28 x5 v → gqIV Q (K28 x5 v) → gG E m_L_law d Q (322 * nf) (2566 * nf) (rS v) 28 [(0, .ref (gva E 200)), (1, .ref (gX E + 0)), (2, .ref (gX E + 559)), (3, .ref (gX E + 570)), (4, .ref (gX E + 571)), (5, .int x5)] [])  (x5 : Int32) (x6 : Int32) (s0 : Int32) (v : gV) (hp : p_L_law_3223 N xs K28 PK28 x5 x6 s0 v) (hQ : gqIV Q (f_L_law_3223 N xs K28 x5 x6 s0 v)) : gG E m_L_law d Q (322 * nf + 0) (2566 * nf + 0) (rS v) 3223 [(0, .ref (gva E 200)), (1, .ref (gX E + 0)), (2, .ref (gX E + 559)), (3, .ref (gX E + 570)), (4, .ref (gX E + 571)), (5, .int x5), (6, .int x6)] [.int s0] := by
  refine g_istore [(7, .int s0), (0, .ref (gva E 200)), (1, .ref (gX E + 0)), (2, .ref (gX E + 559)), (3, .ref (gX E + 570)), (4, .ref (gX E + 571)), (5, .int x5), (6, .int x6)] dL_law_3223 (by decide) rfl ?_
  refine g_aload_n 3 dL_law_3225 rfl ?_
  obtain ⟨h492, hp⟩ := hp
  refine g_callV (rest := []) s_L_193_X12 rfl (c_X12_thrown (E := E) (d := d - 1)   (by omega)  v h492) (by decide : kd 559 = (0, 9)) (show 559 < 572 by decide) rfl rfl (Nat.le_of_ble_eq_true rfl) (by omega) (by omega) (by omega) dL_law_3226 (adV ?_) axN
  refine g_iload 7 dL_law_3229 rfl ?_
  refine g_icmp_eq 3236 dL_law_3231 (by decide) (fun h493 => ?_) (fun h493 => ?_)
  · have hQ := qp (P := gqIV Q) h493 hQ
    have hp := hp.1 h493
    refine g_iload 7 dL_law_3236 rfl ?_
    refine g_if_ne 3253 dL_law_3238 (by decide) (fun h494 => ?_) (fun h494 => ?_)
    · have hQ := qn (P := gqIV Q) h494 hQ
      have hp := hp.2 h494
      refine g_room (k' := (322 * nf + 0)) (n' := (2566 * nf + 0)) (by omega) (by omega) ?_
      refine g_lv (lv' := [(0, .ref (gva E 200)), (1, .ref (gX E + 0)), (2, .ref (gX E + 559)), (3, .ref (gX E + 570)), (4, .ref (gX E + 571)), (5, .int x5)]) [1, 2, 3, 4, 5, 6] rfl ?_
      exact w_L_law_3253 nf N xs hN hxs hd K28 PK28 hK28 x5 v hp hQ
    · have hQ := qp (P := gqIV Q) h494 hQ
      have hp := hp.1 h494
      refine g_aload_n 4 dL_law_3241 rfl ?_
      refine g_iconst dL_law_3242 (0 : Int32) (by decide) ?_
      refine g_lald (by decide : kd 570 = (3, 1)) (show 570 < 572 by decide) (show ¬ (_ ∨ _) by decide) dL_law_3243 ?_
      refine g_iload 0 dL_law_3244 rfl ?_
      refine g_i2l dL_law_3246 ?_
      refine g_lcmp dL_law_3247 ?_
      refine g_if_eq 3253 dL_law_3248 (by decide) (fun h495 => ?_) (fun h495 => ?_)
      · have hQ := qp (P := gqIV Q) h495 hQ
        have hp := hp.1 h495
        refine g_room (k' := (322 * nf + 0)) (n' := (2566 * nf + 0)) (by omega) (by omega) ?_
        refine g_lv (lv' := [(0, .ref (gva E 200)), (1, .ref (gX E + 0)), (2, .ref (gX E + 559)), (3, .ref (gX E + 570)), (4, .ref (gX E + 571)), (5, .int x5)]) [1, 2, 3, 4, 5, 6] rfl ?_
        exact w_L_law_3253 nf N xs hN hxs hd K28 PK28 hK28 x5 v hp hQ
      · have hQ := qn (P := gqIV Q) h495 hQ
        have hp := hp.2 h495
        refine g_iconst dL_law_3251 (0 : Int32) (by decide) ?_
        exact g_zret rfl rfl dL_law_3252 hQ
  · have hQ := qn (P := gqIV Q) h493 hQ
    have hp := hp.2 h493
    refine g_iconst dL_law_3234 (0 : Int32) (by decide) ?_
    exact g_zret rfl rfl dL_law_3235 hQ
def f_L_law_3217 (N : Nat) (xs : Nat → Int32) (K28 : Int32 → gV → Int32 × gV)  (x5 : Int32) (s0 : Int32) (v : gV) : Int32 × gV := f_L_law_3223 N xs K28 x5 s0 ((f_X12_errorPosition  v).1) (f_X12_errorPosition  v).2
def p_L_law_3217 (N : Nat) (xs : Nat → Int32) (K28 : Int32 → gV → Int32 × gV)  (PK28 : Int32 → gV → Prop)  (x5 : Int32) (s0 : Int32) (v : gV) : Prop := (p_X12_errorPosition  v) ∧ (p_L_law_3223 N xs K28 PK28 x5 s0 ((f_X12_errorPosition  v).1) (f_X12_errorPosition  v).2)
set_option maxHeartbeats 4000000 in
set_option maxRecDepth 100000 in
theorem w_L_law_3217 {E : gE} {d : Nat} {Q : gO → gS → Prop} (nf : Nat) (N : Nat) (xs : Nat → Int32) (hN : gva E 201 = N) (hxs : gxs E = xs) (hd : 16 ≤ d) (K28 : Int32 → gV → Int32 × gV)  (PK28 : Int32 → gV → Prop)  (hK28 : ∀ (x5 : Int32) (v : gV), PK28 x5 v → gqIV Q (K28 x5 v) → gG E m_L_law d Q (322 * nf) (2566 * nf) (rS v) 28 [(0, .ref (gva E 200)), (1, .ref (gX E + 0)), (2, .ref (gX E + 559)), (3, .ref (gX E + 570)), (4, .ref (gX E + 571)), (5, .int x5)] [])  (x5 : Int32) (s0 : Int32) (v : gV) (hp : p_L_law_3217 N xs K28 PK28 x5 s0 v) (hQ : gqIV Q (f_L_law_3217 N xs K28 x5 s0 v)) : gG E m_L_law d Q (322 * nf + 0) (2566 * nf + 0) (rS v) 3217 [(0, .ref (gva E 200)), (1, .ref (gX E + 0)), (2, .ref (gX E + 559)), (3, .ref (gX E + 570)), (4, .ref (gX E + 571)), (5, .int x5)] [.int s0] := by
  refine g_istore [(6, .int s0), (0, .ref (gva E 200)), (1, .ref (gX E + 0)), (2, .ref (gX E + 559)), (3, .ref (gX E + 570)), (4, .ref (gX E + 571)), (5, .int x5)] dL_law_3217 (by decide) rfl ?_
  refine g_aload_n 3 dL_law_3219 rfl ?_
  obtain ⟨h491, hp⟩ := hp
  refine g_callV (rest := []) s_L_386_X12 rfl (c_X12_errorPosition (E := E) (d := d - 1)   (by omega)  v h491) (by decide : kd 559 = (0, 9)) (show 559 < 572 by decide) rfl rfl (Nat.le_of_ble_eq_true rfl) (by omega) (by omega) (by omega) dL_law_3220 (adV ?_) axN
  refine g_room (k' := (322 * nf + 0)) (n' := (2566 * nf + 0)) (by omega) (by omega) ?_
  refine g_lv (lv' := [(0, .ref (gva E 200)), (1, .ref (gX E + 0)), (2, .ref (gX E + 559)), (3, .ref (gX E + 570)), (4, .ref (gX E + 571)), (5, .int x5), (6, .int s0)]) [1, 2, 3, 4, 5, 6, 0] rfl ?_
  exact w_L_law_3223 nf N xs hN hxs hd K28 PK28 hK28 x5 s0 ((f_X12_errorPosition  v).1) (f_X12_errorPosition  v).2 hp hQ
def f_L_law_3212 (N : Nat) (xs : Nat → Int32) (K28 : Int32 → gV → Int32 × gV)  (x5 : Int32) (v : gV) : Int32 × gV := f_L_law_3217 N xs K28 x5 ((f_L_errorPosition  v).1) (f_L_errorPosition  v).2
def p_L_law_3212 (N : Nat) (xs : Nat → Int32) (K28 : Int32 → gV → Int32 × gV)  (PK28 : Int32 → gV → Prop)  (x5 : Int32) (v : gV) : Prop := (p_L_errorPosition  v) ∧ (p_L_law_3217 N xs K28 PK28 x5 ((f_L_errorPosition  v).1) (f_L_errorPosition  v).2)
set_option maxHeartbeats 4000000 in
set_option maxRecDepth 100000 in
theorem w_L_law_3212 {E : gE} {d : Nat} {Q : gO → gS → Prop} (nf : Nat) (N : Nat) (xs : Nat → Int32) (hN : gva E 201 = N) (hxs : gxs E = xs) (hd : 16 ≤ d) (K28 : Int32 → gV → Int32 × gV)  (PK28 : Int32 → gV → Prop)  (hK28 : ∀ (x5 : Int32) (v : gV), PK28 x5 v → gqIV Q (K28 x5 v) → gG E m_L_law d Q (322 * nf) (2566 * nf) (rS v) 28 [(0, .ref (gva E 200)), (1, .ref (gX E + 0)), (2, .ref (gX E + 559)), (3, .ref (gX E + 570)), (4, .ref (gX E + 571)), (5, .int x5)] [])  (x5 : Int32) (v : gV) (hp : p_L_law_3212 N xs K28 PK28 x5 v) (hQ : gqIV Q (f_L_law_3212 N xs K28 x5 v)) : gG E m_L_law d Q (322 * nf + 1) (2566 * nf + 6) (rS v) 3212 [(0, .ref (gva E 200)), (1, .ref (gX E + 0)), (2, .ref (gX E + 559)), (3, .ref (gX E + 570)), (4, .ref (gX E + 571)), (5, .int x5)] [] := by
  refine g_aload_n 1 dL_law_3212 rfl ?_
  refine g_aload_n 3 dL_law_3213 rfl ?_
  obtain ⟨h490, hp⟩ := hp
  refine g_callT (rest := []) s_L_384 rfl (c_L_errorPosition (E := E) (d := d - 1)   (by omega)  v h490) cqn rfl rfl (Nat.le_of_ble_eq_true rfl) (by omega) (by omega) (by omega) dL_law_3214 (adV ?_)
  refine g_room (k' := (322 * nf + 0)) (n' := (2566 * nf + 0)) (by omega) (by omega) ?_
  exact w_L_law_3217 nf N xs hN hxs hd K28 PK28 hK28 x5 ((f_L_errorPosition  v).1) (f_L_errorPosition  v).2 hp hQ
def f_L_law_3297 (N : Nat) (xs : Nat → Int32) (K28 : Int32 → gV → Int32 × gV)  (x5 : Int32) (v : gV) : Int32 × gV := f_L_law_3401 N xs K28 x5 v
def p_L_law_3297 (N : Nat) (xs : Nat → Int32) (K28 : Int32 → gV → Int32 × gV)  (PK28 : Int32 → gV → Prop)  (x5 : Int32) (v : gV) : Prop := p_L_law_3401 N xs K28 PK28 x5 v
set_option maxHeartbeats 4000000 in
set_option maxRecDepth 100000 in
theorem w_L_law_3297 {E : gE} {d : Nat} {Q : gO → gS → Prop} (nf : Nat) (N : Nat) (xs : Nat → Int32) (hN : gva E 201 = N) (hxs : gxs E = xs) (hd : 16 ≤ d) (K28 : Int32 → gV → Int32 × gV)  (PK28 : Int32 → gV → Prop)  (hK28 : ∀ (x5 : Int32) (v : gV), PK28 x5 v → gqIV Q (K28 x5 v) → gG E m_L_law d Q (322 * nf) (2566 * nf) (rS v) 28 [(0, .ref (gva E 200)), (1, .ref (gX E + 0)), (2, .ref (gX E + 559)), (3, .ref (gX E + 570)), (4, .ref (gX E + 571)), (5, .int x5)] [])  (x5 : Int32) (v : gV) (hp : p_L_law_3297 N xs K28 PK28 x5 v) (hQ : gqIV Q (f_L_law_3297 N xs K28 x5 v)) : gG E m_L_law d Q (322 * nf + 0) (2566 * nf + 0) (rS v) 3297 [(0, .ref (gva E 200)), (1, .ref (gX E + 0)), (2, .ref (gX E + 559)), (3, .ref (gX E + 570)), (4, .ref (gX E + 571)), (5, .int x5)] [] := by
  refine g_goto 3401 dL_law_3297 (by decide) ?_
  refine g_room (k' := (322 * nf + 0)) (n' := (2566 * nf + 0)) (by omega) (by omega) ?_
  exact w_L_law_3401 nf N xs hN hxs hd K28 PK28 hK28 x5 v hp hQ
def f_L_law_3267 (N : Nat) (xs : Nat → Int32) (K28 : Int32 → gV → Int32 × gV)  (x5 : Int32) (x6 : Int32) (s0 : Int32) (v : gV) : Int32 × gV := if (f_X12_thrown  v) = x6 then (if x6 = 0 then (if (lg_cmp (v.2.1 570 (0 : Int32).toNatClampNeg) s0.toInt64) = 0 then (f_L_law_3297 N xs K28 x5 v) else (((0 : Int32), v))) else (f_L_law_3297 N xs K28 x5 v)) else (((0 : Int32), v))
def p_L_law_3267 (N : Nat) (xs : Nat → Int32) (K28 : Int32 → gV → Int32 × gV)  (PK28 : Int32 → gV → Prop)  (x5 : Int32) (x6 : Int32) (s0 : Int32) (v : gV) : Prop := (p_X12_thrown  v) ∧ ((((f_X12_thrown  v) = x6) → (((x6 = 0) → ((((lg_cmp (v.2.1 570 (0 : Int32).toNatClampNeg) s0.toInt64) = 0) → (p_L_law_3297 N xs K28 PK28 x5 v)) ∧ (¬ ((lg_cmp (v.2.1 570 (0 : Int32).toNatClampNeg) s0.toInt64) = 0) → (True)))) ∧ (¬ (x6 = 0) → (p_L_law_3297 N xs K28 PK28 x5 v)))) ∧ (¬ ((f_X12_thrown  v) = x6) → (True)))
set_option maxHeartbeats 4000000 in
set_option maxRecDepth 100000 in
theorem w_L_law_3267 {E : gE} {d : Nat} {Q : gO → gS → Prop} (nf : Nat) (N : Nat) (xs : Nat → Int32) (hN : gva E 201 = N) (hxs : gxs E = xs) (hd : 16 ≤ d) (K28 : Int32 → gV → Int32 × gV)  (PK28 : Int32 → gV → Prop)  (hK28 : ∀ (x5 : Int32) (v : gV), PK28 x5 v → gqIV Q (K28 x5 v) → gG E m_L_law d Q (322 * nf) (2566 * nf) (rS v) 28 [(0, .ref (gva E 200)), (1, .ref (gX E + 0)), (2, .ref (gX E + 559)), (3, .ref (gX E + 570)), (4, .ref (gX E + 571)), (5, .int x5)] [])  (x5 : Int32) (x6 : Int32) (s0 : Int32) (v : gV) (hp : p_L_law_3267 N xs K28 PK28 x5 x6 s0 v) (hQ : gqIV Q (f_L_law_3267 N xs K28 x5 x6 s0 v)) : gG E m_L_law d Q (322 * nf + 0) (2566 * nf + 0) (rS v) 3267 [(0, .ref (gva E 200)), (1, .ref (gX E + 0)), (2, .ref (gX E + 559)), (3, .ref (gX E + 570)), (4, .ref (gX E + 571)), (5, .int x5), (6, .int x6)] [.int s0] := by
  refine g_istore [(7, .int s0), (0, .ref (gva E 200)), (1, .ref (gX E + 0)), (2, .ref (gX E + 559)), (3, .ref (gX E + 570)), (4, .ref (gX E + 571)), (5, .int x5), (6, .int x6)] dL_law_3267 (by decide) rfl ?_
  refine g_aload_n 3 dL_law_3269 rfl ?_
  obtain ⟨h499, hp⟩ := hp
  refine g_callV (rest := []) s_L_193_X12 rfl (c_X12_thrown (E := E) (d := d - 1)   (by omega)  v h499) (by decide : kd 559 = (0, 9)) (show 559 < 572 by decide) rfl rfl (Nat.le_of_ble_eq_true rfl) (by omega) (by omega) (by omega) dL_law_3270 (adV ?_) axN
  refine g_iload 7 dL_law_3273 rfl ?_
  refine g_icmp_eq 3280 dL_law_3275 (by decide) (fun h500 => ?_) (fun h500 => ?_)
  · have hQ := qp (P := gqIV Q) h500 hQ
    have hp := hp.1 h500
    refine g_iload 7 dL_law_3280 rfl ?_
    refine g_if_ne 3297 dL_law_3282 (by decide) (fun h501 => ?_) (fun h501 => ?_)
    · have hQ := qn (P := gqIV Q) h501 hQ
      have hp := hp.2 h501
      refine g_room (k' := (322 * nf + 0)) (n' := (2566 * nf + 0)) (by omega) (by omega) ?_
      refine g_lv (lv' := [(0, .ref (gva E 200)), (1, .ref (gX E + 0)), (2, .ref (gX E + 559)), (3, .ref (gX E + 570)), (4, .ref (gX E + 571)), (5, .int x5)]) [1, 2, 3, 4, 5, 6] rfl ?_
      exact w_L_law_3297 nf N xs hN hxs hd K28 PK28 hK28 x5 v hp hQ
    · have hQ := qp (P := gqIV Q) h501 hQ
      have hp := hp.1 h501
      refine g_aload_n 4 dL_law_3285 rfl ?_
      refine g_iconst dL_law_3286 (0 : Int32) (by decide) ?_
      refine g_lald (by decide : kd 570 = (3, 1)) (show 570 < 572 by decide) (show ¬ (_ ∨ _) by decide) dL_law_3287 ?_
      refine g_iload 0 dL_law_3288 rfl ?_
      refine g_i2l dL_law_3290 ?_
      refine g_lcmp dL_law_3291 ?_
      refine g_if_eq 3297 dL_law_3292 (by decide) (fun h502 => ?_) (fun h502 => ?_)
      · have hQ := qp (P := gqIV Q) h502 hQ
        have hp := hp.1 h502
        refine g_room (k' := (322 * nf + 0)) (n' := (2566 * nf + 0)) (by omega) (by omega) ?_
        refine g_lv (lv' := [(0, .ref (gva E 200)), (1, .ref (gX E + 0)), (2, .ref (gX E + 559)), (3, .ref (gX E + 570)), (4, .ref (gX E + 571)), (5, .int x5)]) [1, 2, 3, 4, 5, 6] rfl ?_
        exact w_L_law_3297 nf N xs hN hxs hd K28 PK28 hK28 x5 v hp hQ
      · have hQ := qn (P := gqIV Q) h502 hQ
        have hp := hp.2 h502
        refine g_iconst dL_law_3295 (0 : Int32) (by decide) ?_
        exact g_zret rfl rfl dL_law_3296 hQ
  · have hQ := qn (P := gqIV Q) h500 hQ
    have hp := hp.2 h500
    refine g_iconst dL_law_3278 (0 : Int32) (by decide) ?_
    exact g_zret rfl rfl dL_law_3279 hQ
def f_L_law_3261 (N : Nat) (xs : Nat → Int32) (K28 : Int32 → gV → Int32 × gV)  (x5 : Int32) (s0 : Int32) (v : gV) : Int32 × gV := f_L_law_3267 N xs K28 x5 s0 ((f_X12_failedCommand  v).1) (f_X12_failedCommand  v).2
def p_L_law_3261 (N : Nat) (xs : Nat → Int32) (K28 : Int32 → gV → Int32 × gV)  (PK28 : Int32 → gV → Prop)  (x5 : Int32) (s0 : Int32) (v : gV) : Prop := (p_X12_failedCommand  v) ∧ (p_L_law_3267 N xs K28 PK28 x5 s0 ((f_X12_failedCommand  v).1) (f_X12_failedCommand  v).2)
set_option maxHeartbeats 4000000 in
set_option maxRecDepth 100000 in
theorem w_L_law_3261 {E : gE} {d : Nat} {Q : gO → gS → Prop} (nf : Nat) (N : Nat) (xs : Nat → Int32) (hN : gva E 201 = N) (hxs : gxs E = xs) (hd : 16 ≤ d) (K28 : Int32 → gV → Int32 × gV)  (PK28 : Int32 → gV → Prop)  (hK28 : ∀ (x5 : Int32) (v : gV), PK28 x5 v → gqIV Q (K28 x5 v) → gG E m_L_law d Q (322 * nf) (2566 * nf) (rS v) 28 [(0, .ref (gva E 200)), (1, .ref (gX E + 0)), (2, .ref (gX E + 559)), (3, .ref (gX E + 570)), (4, .ref (gX E + 571)), (5, .int x5)] [])  (x5 : Int32) (s0 : Int32) (v : gV) (hp : p_L_law_3261 N xs K28 PK28 x5 s0 v) (hQ : gqIV Q (f_L_law_3261 N xs K28 x5 s0 v)) : gG E m_L_law d Q (322 * nf + 0) (2566 * nf + 0) (rS v) 3261 [(0, .ref (gva E 200)), (1, .ref (gX E + 0)), (2, .ref (gX E + 559)), (3, .ref (gX E + 570)), (4, .ref (gX E + 571)), (5, .int x5)] [.int s0] := by
  refine g_istore [(6, .int s0), (0, .ref (gva E 200)), (1, .ref (gX E + 0)), (2, .ref (gX E + 559)), (3, .ref (gX E + 570)), (4, .ref (gX E + 571)), (5, .int x5)] dL_law_3261 (by decide) rfl ?_
  refine g_aload_n 3 dL_law_3263 rfl ?_
  obtain ⟨h498, hp⟩ := hp
  refine g_callV (rest := []) s_L_389_X12 rfl (c_X12_failedCommand (E := E) (d := d - 1)   (by omega)  v h498) (by decide : kd 559 = (0, 9)) (show 559 < 572 by decide) rfl rfl (Nat.le_of_ble_eq_true rfl) (by omega) (by omega) (by omega) dL_law_3264 (adV ?_) axN
  refine g_room (k' := (322 * nf + 0)) (n' := (2566 * nf + 0)) (by omega) (by omega) ?_
  refine g_lv (lv' := [(0, .ref (gva E 200)), (1, .ref (gX E + 0)), (2, .ref (gX E + 559)), (3, .ref (gX E + 570)), (4, .ref (gX E + 571)), (5, .int x5), (6, .int s0)]) [1, 2, 3, 4, 5, 6, 0] rfl ?_
  exact w_L_law_3267 nf N xs hN hxs hd K28 PK28 hK28 x5 s0 ((f_X12_failedCommand  v).1) (f_X12_failedCommand  v).2 hp hQ
def f_L_law_3256 (N : Nat) (xs : Nat → Int32) (K28 : Int32 → gV → Int32 × gV)  (x5 : Int32) (v : gV) : Int32 × gV := f_L_law_3261 N xs K28 x5 ((f_L_failedCommand  v).1) (f_L_failedCommand  v).2
def p_L_law_3256 (N : Nat) (xs : Nat → Int32) (K28 : Int32 → gV → Int32 × gV)  (PK28 : Int32 → gV → Prop)  (x5 : Int32) (v : gV) : Prop := (p_L_failedCommand  v) ∧ (p_L_law_3261 N xs K28 PK28 x5 ((f_L_failedCommand  v).1) (f_L_failedCommand  v).2)
set_option maxHeartbeats 4000000 in
set_option maxRecDepth 100000 in
theorem w_L_law_3256 {E : gE} {d : Nat} {Q : gO → gS → Prop} (nf : Nat) (N : Nat) (xs : Nat → Int32) (hN : gva E 201 = N) (hxs : gxs E = xs) (hd : 16 ≤ d) (K28 : Int32 → gV → Int32 × gV)  (PK28 : Int32 → gV → Prop)  (hK28 : ∀ (x5 : Int32) (v : gV), PK28 x5 v → gqIV Q (K28 x5 v) → gG E m_L_law d Q (322 * nf) (2566 * nf) (rS v) 28 [(0, .ref (gva E 200)), (1, .ref (gX E + 0)), (2, .ref (gX E + 559)), (3, .ref (gX E + 570)), (4, .ref (gX E + 571)), (5, .int x5)] [])  (x5 : Int32) (v : gV) (hp : p_L_law_3256 N xs K28 PK28 x5 v) (hQ : gqIV Q (f_L_law_3256 N xs K28 x5 v)) : gG E m_L_law d Q (322 * nf + 1) (2566 * nf + 6) (rS v) 3256 [(0, .ref (gva E 200)), (1, .ref (gX E + 0)), (2, .ref (gX E + 559)), (3, .ref (gX E + 570)), (4, .ref (gX E + 571)), (5, .int x5)] [] := by
  refine g_aload_n 1 dL_law_3256 rfl ?_
  refine g_aload_n 3 dL_law_3257 rfl ?_
  obtain ⟨h497, hp⟩ := hp
  refine g_callT (rest := []) s_L_387 rfl (c_L_failedCommand (E := E) (d := d - 1)   (by omega)  v h497) cqn rfl rfl (Nat.le_of_ble_eq_true rfl) (by omega) (by omega) (by omega) dL_law_3258 (adV ?_)
  refine g_room (k' := (322 * nf + 0)) (n' := (2566 * nf + 0)) (by omega) (by omega) ?_
  exact w_L_law_3261 nf N xs hN hxs hd K28 PK28 hK28 x5 ((f_L_failedCommand  v).1) (f_L_failedCommand  v).2 hp hQ
def f_L_law_3341 (N : Nat) (xs : Nat → Int32) (K28 : Int32 → gV → Int32 × gV)  (x5 : Int32) (v : gV) : Int32 × gV := f_L_law_3401 N xs K28 x5 v
def p_L_law_3341 (N : Nat) (xs : Nat → Int32) (K28 : Int32 → gV → Int32 × gV)  (PK28 : Int32 → gV → Prop)  (x5 : Int32) (v : gV) : Prop := p_L_law_3401 N xs K28 PK28 x5 v
set_option maxHeartbeats 4000000 in
set_option maxRecDepth 100000 in
theorem w_L_law_3341 {E : gE} {d : Nat} {Q : gO → gS → Prop} (nf : Nat) (N : Nat) (xs : Nat → Int32) (hN : gva E 201 = N) (hxs : gxs E = xs) (hd : 16 ≤ d) (K28 : Int32 → gV → Int32 × gV)  (PK28 : Int32 → gV → Prop)  (hK28 : ∀ (x5 : Int32) (v : gV), PK28 x5 v → gqIV Q (K28 x5 v) → gG E m_L_law d Q (322 * nf) (2566 * nf) (rS v) 28 [(0, .ref (gva E 200)), (1, .ref (gX E + 0)), (2, .ref (gX E + 559)), (3, .ref (gX E + 570)), (4, .ref (gX E + 571)), (5, .int x5)] [])  (x5 : Int32) (v : gV) (hp : p_L_law_3341 N xs K28 PK28 x5 v) (hQ : gqIV Q (f_L_law_3341 N xs K28 x5 v)) : gG E m_L_law d Q (322 * nf + 0) (2566 * nf + 0) (rS v) 3341 [(0, .ref (gva E 200)), (1, .ref (gX E + 0)), (2, .ref (gX E + 559)), (3, .ref (gX E + 570)), (4, .ref (gX E + 571)), (5, .int x5)] [] := by
  refine g_goto 3401 dL_law_3341 (by decide) ?_
  refine g_room (k' := (322 * nf + 0)) (n' := (2566 * nf + 0)) (by omega) (by omega) ?_
  exact w_L_law_3401 nf N xs hN hxs hd K28 PK28 hK28 x5 v hp hQ
def f_L_law_3311 (N : Nat) (xs : Nat → Int32) (K28 : Int32 → gV → Int32 × gV)  (x5 : Int32) (x6 : Int32) (s0 : Int32) (v : gV) : Int32 × gV := if (f_X12_thrown  v) = x6 then (if x6 = 0 then (if (lg_cmp (v.2.1 570 (0 : Int32).toNatClampNeg) s0.toInt64) = 0 then (f_L_law_3341 N xs K28 x5 v) else (((0 : Int32), v))) else (f_L_law_3341 N xs K28 x5 v)) else (((0 : Int32), v))
def p_L_law_3311 (N : Nat) (xs : Nat → Int32) (K28 : Int32 → gV → Int32 × gV)  (PK28 : Int32 → gV → Prop)  (x5 : Int32) (x6 : Int32) (s0 : Int32) (v : gV) : Prop := (p_X12_thrown  v) ∧ ((((f_X12_thrown  v) = x6) → (((x6 = 0) → ((((lg_cmp (v.2.1 570 (0 : Int32).toNatClampNeg) s0.toInt64) = 0) → (p_L_law_3341 N xs K28 PK28 x5 v)) ∧ (¬ ((lg_cmp (v.2.1 570 (0 : Int32).toNatClampNeg) s0.toInt64) = 0) → (True)))) ∧ (¬ (x6 = 0) → (p_L_law_3341 N xs K28 PK28 x5 v)))) ∧ (¬ ((f_X12_thrown  v) = x6) → (True)))
set_option maxHeartbeats 4000000 in
set_option maxRecDepth 100000 in
theorem w_L_law_3311 {E : gE} {d : Nat} {Q : gO → gS → Prop} (nf : Nat) (N : Nat) (xs : Nat → Int32) (hN : gva E 201 = N) (hxs : gxs E = xs) (hd : 16 ≤ d) (K28 : Int32 → gV → Int32 × gV)  (PK28 : Int32 → gV → Prop)  (hK28 : ∀ (x5 : Int32) (v : gV), PK28 x5 v → gqIV Q (K28 x5 v) → gG E m_L_law d Q (322 * nf) (2566 * nf) (rS v) 28 [(0, .ref (gva E 200)), (1, .ref (gX E + 0)), (2, .ref (gX E + 559)), (3, .ref (gX E + 570)), (4, .ref (gX E + 571)), (5, .int x5)] [])  (x5 : Int32) (x6 : Int32) (s0 : Int32) (v : gV) (hp : p_L_law_3311 N xs K28 PK28 x5 x6 s0 v) (hQ : gqIV Q (f_L_law_3311 N xs K28 x5 x6 s0 v)) : gG E m_L_law d Q (322 * nf + 0) (2566 * nf + 0) (rS v) 3311 [(0, .ref (gva E 200)), (1, .ref (gX E + 0)), (2, .ref (gX E + 559)), (3, .ref (gX E + 570)), (4, .ref (gX E + 571)), (5, .int x5), (6, .int x6)] [.int s0] := by
  refine g_istore [(7, .int s0), (0, .ref (gva E 200)), (1, .ref (gX E + 0)), (2, .ref (gX E + 559)), (3, .ref (gX E + 570)), (4, .ref (gX E + 571)), (5, .int x5), (6, .int x6)] dL_law_3311 (by decide) rfl ?_
  refine g_aload_n 3 dL_law_3313 rfl ?_
  obtain ⟨h506, hp⟩ := hp
  refine g_callV (rest := []) s_L_193_X12 rfl (c_X12_thrown (E := E) (d := d - 1)   (by omega)  v h506) (by decide : kd 559 = (0, 9)) (show 559 < 572 by decide) rfl rfl (Nat.le_of_ble_eq_true rfl) (by omega) (by omega) (by omega) dL_law_3314 (adV ?_) axN
  refine g_iload 7 dL_law_3317 rfl ?_
  refine g_icmp_eq 3324 dL_law_3319 (by decide) (fun h507 => ?_) (fun h507 => ?_)
  · have hQ := qp (P := gqIV Q) h507 hQ
    have hp := hp.1 h507
    refine g_iload 7 dL_law_3324 rfl ?_
    refine g_if_ne 3341 dL_law_3326 (by decide) (fun h508 => ?_) (fun h508 => ?_)
    · have hQ := qn (P := gqIV Q) h508 hQ
      have hp := hp.2 h508
      refine g_room (k' := (322 * nf + 0)) (n' := (2566 * nf + 0)) (by omega) (by omega) ?_
      refine g_lv (lv' := [(0, .ref (gva E 200)), (1, .ref (gX E + 0)), (2, .ref (gX E + 559)), (3, .ref (gX E + 570)), (4, .ref (gX E + 571)), (5, .int x5)]) [1, 2, 3, 4, 5, 6] rfl ?_
      exact w_L_law_3341 nf N xs hN hxs hd K28 PK28 hK28 x5 v hp hQ
    · have hQ := qp (P := gqIV Q) h508 hQ
      have hp := hp.1 h508
      refine g_aload_n 4 dL_law_3329 rfl ?_
      refine g_iconst dL_law_3330 (0 : Int32) (by decide) ?_
      refine g_lald (by decide : kd 570 = (3, 1)) (show 570 < 572 by decide) (show ¬ (_ ∨ _) by decide) dL_law_3331 ?_
      refine g_iload 0 dL_law_3332 rfl ?_
      refine g_i2l dL_law_3334 ?_
      refine g_lcmp dL_law_3335 ?_
      refine g_if_eq 3341 dL_law_3336 (by decide) (fun h509 => ?_) (fun h509 => ?_)
      · have hQ := qp (P := gqIV Q) h509 hQ
        have hp := hp.1 h509
        refine g_room (k' := (322 * nf + 0)) (n' := (2566 * nf + 0)) (by omega) (by omega) ?_
        refine g_lv (lv' := [(0, .ref (gva E 200)), (1, .ref (gX E + 0)), (2, .ref (gX E + 559)), (3, .ref (gX E + 570)), (4, .ref (gX E + 571)), (5, .int x5)]) [1, 2, 3, 4, 5, 6] rfl ?_
        exact w_L_law_3341 nf N xs hN hxs hd K28 PK28 hK28 x5 v hp hQ
      · have hQ := qn (P := gqIV Q) h509 hQ
        have hp := hp.2 h509
        refine g_iconst dL_law_3339 (0 : Int32) (by decide) ?_
        exact g_zret rfl rfl dL_law_3340 hQ
  · have hQ := qn (P := gqIV Q) h507 hQ
    have hp := hp.2 h507
    refine g_iconst dL_law_3322 (0 : Int32) (by decide) ?_
    exact g_zret rfl rfl dL_law_3323 hQ
def f_L_law_3305 (N : Nat) (xs : Nat → Int32) (K28 : Int32 → gV → Int32 × gV)  (x5 : Int32) (s0 : Int32) (v : gV) : Int32 × gV := f_L_law_3311 N xs K28 x5 s0 ((f_X12_undo  v).1) (f_X12_undo  v).2
def p_L_law_3305 (N : Nat) (xs : Nat → Int32) (K28 : Int32 → gV → Int32 × gV)  (PK28 : Int32 → gV → Prop)  (x5 : Int32) (s0 : Int32) (v : gV) : Prop := (p_X12_undo  v) ∧ (p_L_law_3311 N xs K28 PK28 x5 s0 ((f_X12_undo  v).1) (f_X12_undo  v).2)
set_option maxHeartbeats 4000000 in
set_option maxRecDepth 100000 in
theorem w_L_law_3305 {E : gE} {d : Nat} {Q : gO → gS → Prop} (nf : Nat) (N : Nat) (xs : Nat → Int32) (hN : gva E 201 = N) (hxs : gxs E = xs) (hd : 16 ≤ d) (K28 : Int32 → gV → Int32 × gV)  (PK28 : Int32 → gV → Prop)  (hK28 : ∀ (x5 : Int32) (v : gV), PK28 x5 v → gqIV Q (K28 x5 v) → gG E m_L_law d Q (322 * nf) (2566 * nf) (rS v) 28 [(0, .ref (gva E 200)), (1, .ref (gX E + 0)), (2, .ref (gX E + 559)), (3, .ref (gX E + 570)), (4, .ref (gX E + 571)), (5, .int x5)] [])  (x5 : Int32) (s0 : Int32) (v : gV) (hp : p_L_law_3305 N xs K28 PK28 x5 s0 v) (hQ : gqIV Q (f_L_law_3305 N xs K28 x5 s0 v)) : gG E m_L_law d Q (322 * nf + 0) (2566 * nf + 0) (rS v) 3305 [(0, .ref (gva E 200)), (1, .ref (gX E + 0)), (2, .ref (gX E + 559)), (3, .ref (gX E + 570)), (4, .ref (gX E + 571)), (5, .int x5)] [.int s0] := by
  refine g_istore [(6, .int s0), (0, .ref (gva E 200)), (1, .ref (gX E + 0)), (2, .ref (gX E + 559)), (3, .ref (gX E + 570)), (4, .ref (gX E + 571)), (5, .int x5)] dL_law_3305 (by decide) rfl ?_
  refine g_aload_n 3 dL_law_3307 rfl ?_
  obtain ⟨h505, hp⟩ := hp
  refine g_callV (rest := []) s_L_392_X12 rfl (c_X12_undo (E := E) (d := d - 1)   (by omega)  v h505) (by decide : kd 559 = (0, 9)) (show 559 < 572 by decide) rfl rfl (Nat.le_of_ble_eq_true rfl) (by omega) (by omega) (by omega) dL_law_3308 (adV ?_) axN
  refine g_room (k' := (322 * nf + 0)) (n' := (2566 * nf + 0)) (by omega) (by omega) ?_
  refine g_lv (lv' := [(0, .ref (gva E 200)), (1, .ref (gX E + 0)), (2, .ref (gX E + 559)), (3, .ref (gX E + 570)), (4, .ref (gX E + 571)), (5, .int x5), (6, .int s0)]) [1, 2, 3, 4, 5, 6, 0] rfl ?_
  exact w_L_law_3311 nf N xs hN hxs hd K28 PK28 hK28 x5 s0 ((f_X12_undo  v).1) (f_X12_undo  v).2 hp hQ
def f_L_law_3300 (N : Nat) (xs : Nat → Int32) (K28 : Int32 → gV → Int32 × gV)  (x5 : Int32) (v : gV) : Int32 × gV := f_L_law_3305 N xs K28 x5 ((f_L_undo  v).1) (f_L_undo  v).2
def p_L_law_3300 (N : Nat) (xs : Nat → Int32) (K28 : Int32 → gV → Int32 × gV)  (PK28 : Int32 → gV → Prop)  (x5 : Int32) (v : gV) : Prop := (p_L_undo  v) ∧ (p_L_law_3305 N xs K28 PK28 x5 ((f_L_undo  v).1) (f_L_undo  v).2)
set_option maxHeartbeats 4000000 in
set_option maxRecDepth 100000 in
theorem w_L_law_3300 {E : gE} {d : Nat} {Q : gO → gS → Prop} (nf : Nat) (N : Nat) (xs : Nat → Int32) (hN : gva E 201 = N) (hxs : gxs E = xs) (hd : 16 ≤ d) (K28 : Int32 → gV → Int32 × gV)  (PK28 : Int32 → gV → Prop)  (hK28 : ∀ (x5 : Int32) (v : gV), PK28 x5 v → gqIV Q (K28 x5 v) → gG E m_L_law d Q (322 * nf) (2566 * nf) (rS v) 28 [(0, .ref (gva E 200)), (1, .ref (gX E + 0)), (2, .ref (gX E + 559)), (3, .ref (gX E + 570)), (4, .ref (gX E + 571)), (5, .int x5)] [])  (x5 : Int32) (v : gV) (hp : p_L_law_3300 N xs K28 PK28 x5 v) (hQ : gqIV Q (f_L_law_3300 N xs K28 x5 v)) : gG E m_L_law d Q (322 * nf + 1) (2566 * nf + 6) (rS v) 3300 [(0, .ref (gva E 200)), (1, .ref (gX E + 0)), (2, .ref (gX E + 559)), (3, .ref (gX E + 570)), (4, .ref (gX E + 571)), (5, .int x5)] [] := by
  refine g_aload_n 1 dL_law_3300 rfl ?_
  refine g_aload_n 3 dL_law_3301 rfl ?_
  obtain ⟨h504, hp⟩ := hp
  refine g_callT (rest := []) s_L_390 rfl (c_L_undo (E := E) (d := d - 1)   (by omega)  v h504) cqn rfl rfl (Nat.le_of_ble_eq_true rfl) (by omega) (by omega) (by omega) dL_law_3302 (adV ?_)
  refine g_room (k' := (322 * nf + 0)) (n' := (2566 * nf + 0)) (by omega) (by omega) ?_
  exact w_L_law_3305 nf N xs hN hxs hd K28 PK28 hK28 x5 ((f_L_undo  v).1) (f_L_undo  v).2 hp hQ
def f_L_law_3352 (N : Nat) (xs : Nat → Int32) (K28 : Int32 → gV → Int32 × gV)  (x5 : Int32) (s0 : Int32) (s1 : Int32) (v : gV) : Int32 × gV := if s1 = s0 then (f_L_law_3401 N xs K28 x5 v) else (((0 : Int32), v))
def p_L_law_3352 (N : Nat) (xs : Nat → Int32) (K28 : Int32 → gV → Int32 × gV)  (PK28 : Int32 → gV → Prop)  (x5 : Int32) (s0 : Int32) (s1 : Int32) (v : gV) : Prop := ((s1 = s0) → (p_L_law_3401 N xs K28 PK28 x5 v)) ∧ (¬ (s1 = s0) → (True))
set_option maxHeartbeats 4000000 in
set_option maxRecDepth 100000 in
theorem w_L_law_3352 {E : gE} {d : Nat} {Q : gO → gS → Prop} (nf : Nat) (N : Nat) (xs : Nat → Int32) (hN : gva E 201 = N) (hxs : gxs E = xs) (hd : 16 ≤ d) (K28 : Int32 → gV → Int32 × gV)  (PK28 : Int32 → gV → Prop)  (hK28 : ∀ (x5 : Int32) (v : gV), PK28 x5 v → gqIV Q (K28 x5 v) → gG E m_L_law d Q (322 * nf) (2566 * nf) (rS v) 28 [(0, .ref (gva E 200)), (1, .ref (gX E + 0)), (2, .ref (gX E + 559)), (3, .ref (gX E + 570)), (4, .ref (gX E + 571)), (5, .int x5)] [])  (x5 : Int32) (s0 : Int32) (s1 : Int32) (v : gV) (hp : p_L_law_3352 N xs K28 PK28 x5 s0 s1 v) (hQ : gqIV Q (f_L_law_3352 N xs K28 x5 s0 s1 v)) : gG E m_L_law d Q (322 * nf + 0) (2566 * nf + 0) (rS v) 3352 [(0, .ref (gva E 200)), (1, .ref (gX E + 0)), (2, .ref (gX E + 559)), (3, .ref (gX E + 570)), (4, .ref (gX E + 571)), (5, .int x5)] [.int s0, .int s1] := by
  refine g_icmp_eq 3401 dL_law_3352 (by decide) (fun h513 => ?_) (fun h513 => ?_)
  · have hQ := qp (P := gqIV Q) h513 hQ
    have hp := hp.1 h513
    refine g_room (k' := (322 * nf + 0)) (n' := (2566 * nf + 0)) (by omega) (by omega) ?_
    exact w_L_law_3401 nf N xs hN hxs hd K28 PK28 hK28 x5 v hp hQ
  · have hQ := qn (P := gqIV Q) h513 hQ
    have hp := hp.2 h513
    refine g_iconst dL_law_3355 (0 : Int32) (by decide) ?_
    exact g_zret rfl rfl dL_law_3356 hQ
def f_L_law_3348 (N : Nat) (xs : Nat → Int32) (K28 : Int32 → gV → Int32 × gV)  (x5 : Int32) (s0 : Int32) (v : gV) : Int32 × gV := f_L_law_3352 N xs K28 x5 ((f_X12_save  v).1) s0 (f_X12_save  v).2
def p_L_law_3348 (N : Nat) (xs : Nat → Int32) (K28 : Int32 → gV → Int32 × gV)  (PK28 : Int32 → gV → Prop)  (x5 : Int32) (s0 : Int32) (v : gV) : Prop := (p_X12_save  v) ∧ (p_L_law_3352 N xs K28 PK28 x5 ((f_X12_save  v).1) s0 (f_X12_save  v).2)
set_option maxHeartbeats 4000000 in
set_option maxRecDepth 100000 in
theorem w_L_law_3348 {E : gE} {d : Nat} {Q : gO → gS → Prop} (nf : Nat) (N : Nat) (xs : Nat → Int32) (hN : gva E 201 = N) (hxs : gxs E = xs) (hd : 16 ≤ d) (K28 : Int32 → gV → Int32 × gV)  (PK28 : Int32 → gV → Prop)  (hK28 : ∀ (x5 : Int32) (v : gV), PK28 x5 v → gqIV Q (K28 x5 v) → gG E m_L_law d Q (322 * nf) (2566 * nf) (rS v) 28 [(0, .ref (gva E 200)), (1, .ref (gX E + 0)), (2, .ref (gX E + 559)), (3, .ref (gX E + 570)), (4, .ref (gX E + 571)), (5, .int x5)] [])  (x5 : Int32) (s0 : Int32) (v : gV) (hp : p_L_law_3348 N xs K28 PK28 x5 s0 v) (hQ : gqIV Q (f_L_law_3348 N xs K28 x5 s0 v)) : gG E m_L_law d Q (322 * nf + 0) (2566 * nf + 0) (rS v) 3348 [(0, .ref (gva E 200)), (1, .ref (gX E + 0)), (2, .ref (gX E + 559)), (3, .ref (gX E + 570)), (4, .ref (gX E + 571)), (5, .int x5)] [.int s0] := by
  refine g_aload_n 2 dL_law_3348 rfl ?_
  obtain ⟨h512, hp⟩ := hp
  refine g_callV (rest := [.int s0]) s_L_396_X12 rfl (c_X12_save (E := E) (d := d - 1)   (by omega)  v h512) (by decide : kd 559 = (0, 9)) (show 559 < 572 by decide) rfl rfl (Nat.le_of_ble_eq_true rfl) (by omega) (by omega) (by omega) dL_law_3349 (adV ?_) axN
  refine g_room (k' := (322 * nf + 0)) (n' := (2566 * nf + 0)) (by omega) (by omega) ?_
  exact w_L_law_3352 nf N xs hN hxs hd K28 PK28 hK28 x5 ((f_X12_save  v).1) s0 (f_X12_save  v).2 hp hQ
def f_L_law_3344 (N : Nat) (xs : Nat → Int32) (K28 : Int32 → gV → Int32 × gV)  (x5 : Int32) (v : gV) : Int32 × gV := f_L_law_3348 N xs K28 x5 ((f_X11_save  v).1) (f_X11_save  v).2
def p_L_law_3344 (N : Nat) (xs : Nat → Int32) (K28 : Int32 → gV → Int32 × gV)  (PK28 : Int32 → gV → Prop)  (x5 : Int32) (v : gV) : Prop := (p_X11_save  v) ∧ (p_L_law_3348 N xs K28 PK28 x5 ((f_X11_save  v).1) (f_X11_save  v).2)
set_option maxHeartbeats 4000000 in
set_option maxRecDepth 100000 in
theorem w_L_law_3344 {E : gE} {d : Nat} {Q : gO → gS → Prop} (nf : Nat) (N : Nat) (xs : Nat → Int32) (hN : gva E 201 = N) (hxs : gxs E = xs) (hd : 16 ≤ d) (K28 : Int32 → gV → Int32 × gV)  (PK28 : Int32 → gV → Prop)  (hK28 : ∀ (x5 : Int32) (v : gV), PK28 x5 v → gqIV Q (K28 x5 v) → gG E m_L_law d Q (322 * nf) (2566 * nf) (rS v) 28 [(0, .ref (gva E 200)), (1, .ref (gX E + 0)), (2, .ref (gX E + 559)), (3, .ref (gX E + 570)), (4, .ref (gX E + 571)), (5, .int x5)] [])  (x5 : Int32) (v : gV) (hp : p_L_law_3344 N xs K28 PK28 x5 v) (hQ : gqIV Q (f_L_law_3344 N xs K28 x5 v)) : gG E m_L_law d Q (322 * nf + 0) (2566 * nf + 0) (rS v) 3344 [(0, .ref (gva E 200)), (1, .ref (gX E + 0)), (2, .ref (gX E + 559)), (3, .ref (gX E + 570)), (4, .ref (gX E + 571)), (5, .int x5)] [] := by
  refine g_aload_n 1 dL_law_3344 rfl ?_
  obtain ⟨h511, hp⟩ := hp
  refine g_callV (rest := []) s_L_393_X11 rfl (c_X11_save (E := E) (d := d - 1)   (by omega)  v h511) (by decide : kd 0 = (0, 8)) (show 0 < 572 by decide) rfl rfl (Nat.le_of_ble_eq_true rfl) (by omega) (by omega) (by omega) dL_law_3345 (adV ?_) axN
  refine g_room (k' := (322 * nf + 0)) (n' := (2566 * nf + 0)) (by omega) (by omega) ?_
  exact w_L_law_3348 nf N xs hN hxs hd K28 PK28 hK28 x5 ((f_X11_save  v).1) (f_X11_save  v).2 hp hQ
def f_L_law_3398 (N : Nat) (xs : Nat → Int32) (K28 : Int32 → gV → Int32 × gV)  (x5 : Int32) (v : gV) : Int32 × gV := f_L_law_3401 N xs K28 x5 v
def p_L_law_3398 (N : Nat) (xs : Nat → Int32) (K28 : Int32 → gV → Int32 × gV)  (PK28 : Int32 → gV → Prop)  (x5 : Int32) (v : gV) : Prop := p_L_law_3401 N xs K28 PK28 x5 v
set_option maxHeartbeats 4000000 in
set_option maxRecDepth 100000 in
theorem w_L_law_3398 {E : gE} {d : Nat} {Q : gO → gS → Prop} (nf : Nat) (N : Nat) (xs : Nat → Int32) (hN : gva E 201 = N) (hxs : gxs E = xs) (hd : 16 ≤ d) (K28 : Int32 → gV → Int32 × gV)  (PK28 : Int32 → gV → Prop)  (hK28 : ∀ (x5 : Int32) (v : gV), PK28 x5 v → gqIV Q (K28 x5 v) → gG E m_L_law d Q (322 * nf) (2566 * nf) (rS v) 28 [(0, .ref (gva E 200)), (1, .ref (gX E + 0)), (2, .ref (gX E + 559)), (3, .ref (gX E + 570)), (4, .ref (gX E + 571)), (5, .int x5)] [])  (x5 : Int32) (v : gV) (hp : p_L_law_3398 N xs K28 PK28 x5 v) (hQ : gqIV Q (f_L_law_3398 N xs K28 x5 v)) : gG E m_L_law d Q (322 * nf + 0) (2566 * nf + 0) (rS v) 3398 [(0, .ref (gva E 200)), (1, .ref (gX E + 0)), (2, .ref (gX E + 559)), (3, .ref (gX E + 570)), (4, .ref (gX E + 571)), (5, .int x5)] [] := by
  refine g_goto 3401 dL_law_3398 (by decide) ?_
  refine g_room (k' := (322 * nf + 0)) (n' := (2566 * nf + 0)) (by omega) (by omega) ?_
  exact w_L_law_3401 nf N xs hN hxs hd K28 PK28 hK28 x5 v hp hQ
def f_L_law_3368 (N : Nat) (xs : Nat → Int32) (K28 : Int32 → gV → Int32 × gV)  (x5 : Int32) (x6 : Int32) (s0 : Int32) (v : gV) : Int32 × gV := if (f_X12_thrown  v) = x6 then (if x6 = 0 then (if (lg_cmp (v.2.1 570 (0 : Int32).toNatClampNeg) s0.toInt64) = 0 then (f_L_law_3398 N xs K28 x5 v) else (((0 : Int32), v))) else (f_L_law_3398 N xs K28 x5 v)) else (((0 : Int32), v))
def p_L_law_3368 (N : Nat) (xs : Nat → Int32) (K28 : Int32 → gV → Int32 × gV)  (PK28 : Int32 → gV → Prop)  (x5 : Int32) (x6 : Int32) (s0 : Int32) (v : gV) : Prop := (p_X12_thrown  v) ∧ ((((f_X12_thrown  v) = x6) → (((x6 = 0) → ((((lg_cmp (v.2.1 570 (0 : Int32).toNatClampNeg) s0.toInt64) = 0) → (p_L_law_3398 N xs K28 PK28 x5 v)) ∧ (¬ ((lg_cmp (v.2.1 570 (0 : Int32).toNatClampNeg) s0.toInt64) = 0) → (True)))) ∧ (¬ (x6 = 0) → (p_L_law_3398 N xs K28 PK28 x5 v)))) ∧ (¬ ((f_X12_thrown  v) = x6) → (True)))
set_option maxHeartbeats 4000000 in
set_option maxRecDepth 100000 in
theorem w_L_law_3368 {E : gE} {d : Nat} {Q : gO → gS → Prop} (nf : Nat) (N : Nat) (xs : Nat → Int32) (hN : gva E 201 = N) (hxs : gxs E = xs) (hd : 16 ≤ d) (K28 : Int32 → gV → Int32 × gV)  (PK28 : Int32 → gV → Prop)  (hK28 : ∀ (x5 : Int32) (v : gV), PK28 x5 v → gqIV Q (K28 x5 v) → gG E m_L_law d Q (322 * nf) (2566 * nf) (rS v) 28 [(0, .ref (gva E 200)), (1, .ref (gX E + 0)), (2, .ref (gX E + 559)), (3, .ref (gX E + 570)), (4, .ref (gX E + 571)), (5, .int x5)] [])  (x5 : Int32) (x6 : Int32) (s0 : Int32) (v : gV) (hp : p_L_law_3368 N xs K28 PK28 x5 x6 s0 v) (hQ : gqIV Q (f_L_law_3368 N xs K28 x5 x6 s0 v)) : gG E m_L_law d Q (322 * nf + 0) (2566 * nf + 0) (rS v) 3368 [(0, .ref (gva E 200)), (1, .ref (gX E + 0)), (2, .ref (gX E + 559)), (3, .ref (gX E + 570)), (4, .ref (gX E + 571)), (5, .int x5), (6, .int x6)] [.int s0] := by
  refine g_istore [(7, .int s0), (0, .ref (gva E 200)), (1, .ref (gX E + 0)), (2, .ref (gX E + 559)), (3, .ref (gX E + 570)), (4, .ref (gX E + 571)), (5, .int x5), (6, .int x6)] dL_law_3368 (by decide) rfl ?_
  refine g_aload_n 3 dL_law_3370 rfl ?_
  obtain ⟨h517, hp⟩ := hp
  refine g_callV (rest := []) s_L_193_X12 rfl (c_X12_thrown (E := E) (d := d - 1)   (by omega)  v h517) (by decide : kd 559 = (0, 9)) (show 559 < 572 by decide) rfl rfl (Nat.le_of_ble_eq_true rfl) (by omega) (by omega) (by omega) dL_law_3371 (adV ?_) axN
  refine g_iload 7 dL_law_3374 rfl ?_
  refine g_icmp_eq 3381 dL_law_3376 (by decide) (fun h518 => ?_) (fun h518 => ?_)
  · have hQ := qp (P := gqIV Q) h518 hQ
    have hp := hp.1 h518
    refine g_iload 7 dL_law_3381 rfl ?_
    refine g_if_ne 3398 dL_law_3383 (by decide) (fun h519 => ?_) (fun h519 => ?_)
    · have hQ := qn (P := gqIV Q) h519 hQ
      have hp := hp.2 h519
      refine g_room (k' := (322 * nf + 0)) (n' := (2566 * nf + 0)) (by omega) (by omega) ?_
      refine g_lv (lv' := [(0, .ref (gva E 200)), (1, .ref (gX E + 0)), (2, .ref (gX E + 559)), (3, .ref (gX E + 570)), (4, .ref (gX E + 571)), (5, .int x5)]) [1, 2, 3, 4, 5, 6] rfl ?_
      exact w_L_law_3398 nf N xs hN hxs hd K28 PK28 hK28 x5 v hp hQ
    · have hQ := qp (P := gqIV Q) h519 hQ
      have hp := hp.1 h519
      refine g_aload_n 4 dL_law_3386 rfl ?_
      refine g_iconst dL_law_3387 (0 : Int32) (by decide) ?_
      refine g_lald (by decide : kd 570 = (3, 1)) (show 570 < 572 by decide) (show ¬ (_ ∨ _) by decide) dL_law_3388 ?_
      refine g_iload 0 dL_law_3389 rfl ?_
      refine g_i2l dL_law_3391 ?_
      refine g_lcmp dL_law_3392 ?_
      refine g_if_eq 3398 dL_law_3393 (by decide) (fun h520 => ?_) (fun h520 => ?_)
      · have hQ := qp (P := gqIV Q) h520 hQ
        have hp := hp.1 h520
        refine g_room (k' := (322 * nf + 0)) (n' := (2566 * nf + 0)) (by omega) (by omega) ?_
        refine g_lv (lv' := [(0, .ref (gva E 200)), (1, .ref (gX E + 0)), (2, .ref (gX E + 559)), (3, .ref (gX E + 570)), (4, .ref (gX E + 571)), (5, .int x5)]) [1, 2, 3, 4, 5, 6] rfl ?_
        exact w_L_law_3398 nf N xs hN hxs hd K28 PK28 hK28 x5 v hp hQ
      · have hQ := qn (P := gqIV Q) h520 hQ
        have hp := hp.2 h520
        refine g_iconst dL_law_3396 (0 : Int32) (by decide) ?_
        exact g_zret rfl rfl dL_law_3397 hQ
  · have hQ := qn (P := gqIV Q) h518 hQ
    have hp := hp.2 h518
    refine g_iconst dL_law_3379 (0 : Int32) (by decide) ?_
    exact g_zret rfl rfl dL_law_3380 hQ
def f_L_law_3362 (N : Nat) (xs : Nat → Int32) (K28 : Int32 → gV → Int32 × gV)  (x5 : Int32) (s0 : Int32) (v : gV) : Int32 × gV := f_L_law_3368 N xs K28 x5 s0 ((f_X12_restore  v).1) (f_X12_restore  v).2
def p_L_law_3362 (N : Nat) (xs : Nat → Int32) (K28 : Int32 → gV → Int32 × gV)  (PK28 : Int32 → gV → Prop)  (x5 : Int32) (s0 : Int32) (v : gV) : Prop := (p_X12_restore  v) ∧ (p_L_law_3368 N xs K28 PK28 x5 s0 ((f_X12_restore  v).1) (f_X12_restore  v).2)
set_option maxHeartbeats 4000000 in
set_option maxRecDepth 100000 in
theorem w_L_law_3362 {E : gE} {d : Nat} {Q : gO → gS → Prop} (nf : Nat) (N : Nat) (xs : Nat → Int32) (hN : gva E 201 = N) (hxs : gxs E = xs) (hd : 16 ≤ d) (K28 : Int32 → gV → Int32 × gV)  (PK28 : Int32 → gV → Prop)  (hK28 : ∀ (x5 : Int32) (v : gV), PK28 x5 v → gqIV Q (K28 x5 v) → gG E m_L_law d Q (322 * nf) (2566 * nf) (rS v) 28 [(0, .ref (gva E 200)), (1, .ref (gX E + 0)), (2, .ref (gX E + 559)), (3, .ref (gX E + 570)), (4, .ref (gX E + 571)), (5, .int x5)] [])  (x5 : Int32) (s0 : Int32) (v : gV) (hp : p_L_law_3362 N xs K28 PK28 x5 s0 v) (hQ : gqIV Q (f_L_law_3362 N xs K28 x5 s0 v)) : gG E m_L_law d Q (322 * nf + 0) (2566 * nf + 0) (rS v) 3362 [(0, .ref (gva E 200)), (1, .ref (gX E + 0)), (2, .ref (gX E + 559)), (3, .ref (gX E + 570)), (4, .ref (gX E + 571)), (5, .int x5)] [.int s0] := by
  refine g_istore [(6, .int s0), (0, .ref (gva E 200)), (1, .ref (gX E + 0)), (2, .ref (gX E + 559)), (3, .ref (gX E + 570)), (4, .ref (gX E + 571)), (5, .int x5)] dL_law_3362 (by decide) rfl ?_
  refine g_aload_n 3 dL_law_3364 rfl ?_
  obtain ⟨h516, hp⟩ := hp
  refine g_callV (rest := []) s_L_399_X12 rfl (c_X12_restore (E := E) (d := d - 1)   (by omega)  v h516) (by decide : kd 559 = (0, 9)) (show 559 < 572 by decide) rfl rfl (Nat.le_of_ble_eq_true rfl) (by omega) (by omega) (by omega) dL_law_3365 (adV ?_) axN
  refine g_room (k' := (322 * nf + 0)) (n' := (2566 * nf + 0)) (by omega) (by omega) ?_
  refine g_lv (lv' := [(0, .ref (gva E 200)), (1, .ref (gX E + 0)), (2, .ref (gX E + 559)), (3, .ref (gX E + 570)), (4, .ref (gX E + 571)), (5, .int x5), (6, .int s0)]) [1, 2, 3, 4, 5, 6, 0] rfl ?_
  exact w_L_law_3368 nf N xs hN hxs hd K28 PK28 hK28 x5 s0 ((f_X12_restore  v).1) (f_X12_restore  v).2 hp hQ
def f_L_law_3357 (N : Nat) (xs : Nat → Int32) (K28 : Int32 → gV → Int32 × gV)  (x5 : Int32) (v : gV) : Int32 × gV := f_L_law_3362 N xs K28 x5 ((f_L_restore  v).1) (f_L_restore  v).2
def p_L_law_3357 (N : Nat) (xs : Nat → Int32) (K28 : Int32 → gV → Int32 × gV)  (PK28 : Int32 → gV → Prop)  (x5 : Int32) (v : gV) : Prop := (p_L_restore  v) ∧ (p_L_law_3362 N xs K28 PK28 x5 ((f_L_restore  v).1) (f_L_restore  v).2)
set_option maxHeartbeats 4000000 in
set_option maxRecDepth 100000 in
theorem w_L_law_3357 {E : gE} {d : Nat} {Q : gO → gS → Prop} (nf : Nat) (N : Nat) (xs : Nat → Int32) (hN : gva E 201 = N) (hxs : gxs E = xs) (hd : 16 ≤ d) (K28 : Int32 → gV → Int32 × gV)  (PK28 : Int32 → gV → Prop)  (hK28 : ∀ (x5 : Int32) (v : gV), PK28 x5 v → gqIV Q (K28 x5 v) → gG E m_L_law d Q (322 * nf) (2566 * nf) (rS v) 28 [(0, .ref (gva E 200)), (1, .ref (gX E + 0)), (2, .ref (gX E + 559)), (3, .ref (gX E + 570)), (4, .ref (gX E + 571)), (5, .int x5)] [])  (x5 : Int32) (v : gV) (hp : p_L_law_3357 N xs K28 PK28 x5 v) (hQ : gqIV Q (f_L_law_3357 N xs K28 x5 v)) : gG E m_L_law d Q (322 * nf + 1) (2566 * nf + 6) (rS v) 3357 [(0, .ref (gva E 200)), (1, .ref (gX E + 0)), (2, .ref (gX E + 559)), (3, .ref (gX E + 570)), (4, .ref (gX E + 571)), (5, .int x5)] [] := by
  refine g_aload_n 1 dL_law_3357 rfl ?_
  refine g_aload_n 3 dL_law_3358 rfl ?_
  obtain ⟨h515, hp⟩ := hp
  refine g_callT (rest := []) s_L_397 rfl (c_L_restore (E := E) (d := d - 1)   (by omega)  v h515) cqn rfl rfl (Nat.le_of_ble_eq_true rfl) (by omega) (by omega) (by omega) dL_law_3359 (adV ?_)
  refine g_room (k' := (322 * nf + 0)) (n' := (2566 * nf + 0)) (by omega) (by omega) ?_
  exact w_L_law_3362 nf N xs hN hxs hd K28 PK28 hK28 x5 ((f_L_restore  v).1) (f_L_restore  v).2 hp hQ
def f_L_law_28 (N : Nat) (xs : Nat → Int32) : Nat → Int32 → gV → Int32 × gV
  | 0, _, v => (0, v)
  | n + 1, x5, v => if ((nI N) - (5 : Int32)) < x5 then (((1 : Int32), v)) else (if ((xs x5.toNatClampNeg) &&& (63 : Int32)) = 0 then (f_L_law_308 N xs (fun x5 v => f_L_law_28 N xs  n x5 v) x5 v) else (if ((xs x5.toNatClampNeg) &&& (63 : Int32)) = 1 then (f_L_law_388 N xs (fun x5 v => f_L_law_28 N xs  n x5 v) x5 v) else (if ((xs x5.toNatClampNeg) &&& (63 : Int32)) = 2 then (f_L_law_444 N xs (fun x5 v => f_L_law_28 N xs  n x5 v) x5 v) else (if ((xs x5.toNatClampNeg) &&& (63 : Int32)) = 3 then (f_L_law_536 N xs (fun x5 v => f_L_law_28 N xs  n x5 v) x5 v) else (if ((xs x5.toNatClampNeg) &&& (63 : Int32)) = 4 then (f_L_law_592 N xs (fun x5 v => f_L_law_28 N xs  n x5 v) x5 v) else (if ((xs x5.toNatClampNeg) &&& (63 : Int32)) = 5 then (f_L_law_674 N xs (fun x5 v => f_L_law_28 N xs  n x5 v) x5 v) else (if ((xs x5.toNatClampNeg) &&& (63 : Int32)) = 6 then (f_L_law_742 N xs (fun x5 v => f_L_law_28 N xs  n x5 v) x5 v) else (if ((xs x5.toNatClampNeg) &&& (63 : Int32)) = 7 then (f_L_law_798 N xs (fun x5 v => f_L_law_28 N xs  n x5 v) x5 v) else (if ((xs x5.toNatClampNeg) &&& (63 : Int32)) = 8 then (f_L_law_854 N xs (fun x5 v => f_L_law_28 N xs  n x5 v) x5 v) else (if ((xs x5.toNatClampNeg) &&& (63 : Int32)) = 9 then (f_L_law_934 N xs (fun x5 v => f_L_law_28 N xs  n x5 v) x5 v) else (if ((xs x5.toNatClampNeg) &&& (63 : Int32)) = 10 then (f_L_law_990 N xs (fun x5 v => f_L_law_28 N xs  n x5 v) x5 v) else (if ((xs x5.toNatClampNeg) &&& (63 : Int32)) = 11 then (f_L_law_1046 N xs (fun x5 v => f_L_law_28 N xs  n x5 v) x5 v) else (if ((xs x5.toNatClampNeg) &&& (63 : Int32)) = 12 then (f_L_law_1059 N xs (fun x5 v => f_L_law_28 N xs  n x5 v) x5 v) else (if ((xs x5.toNatClampNeg) &&& (63 : Int32)) = 13 then (f_L_law_1072 N xs (fun x5 v => f_L_law_28 N xs  n x5 v) x5 v) else (if ((xs x5.toNatClampNeg) &&& (63 : Int32)) = 14 then (f_L_law_1085 N xs (fun x5 v => f_L_law_28 N xs  n x5 v) x5 v) else (if ((xs x5.toNatClampNeg) &&& (63 : Int32)) = 15 then (f_L_law_1141 N xs (fun x5 v => f_L_law_28 N xs  n x5 v) x5 v) else (if ((xs x5.toNatClampNeg) &&& (63 : Int32)) = 16 then (f_L_law_1197 N xs (fun x5 v => f_L_law_28 N xs  n x5 v) x5 v) else (if ((xs x5.toNatClampNeg) &&& (63 : Int32)) = 17 then (f_L_law_1253 N xs (fun x5 v => f_L_law_28 N xs  n x5 v) x5 v) else (if ((xs x5.toNatClampNeg) &&& (63 : Int32)) = 18 then (f_L_law_1309 N xs (fun x5 v => f_L_law_28 N xs  n x5 v) x5 v) else (if ((xs x5.toNatClampNeg) &&& (63 : Int32)) = 19 then (f_L_law_1365 N xs (fun x5 v => f_L_law_28 N xs  n x5 v) x5 v) else (if ((xs x5.toNatClampNeg) &&& (63 : Int32)) = 20 then (f_L_law_1421 N xs (fun x5 v => f_L_law_28 N xs  n x5 v) x5 v) else (if ((xs x5.toNatClampNeg) &&& (63 : Int32)) = 21 then (f_L_law_1484 N xs (fun x5 v => f_L_law_28 N xs  n x5 v) x5 v) else (if ((xs x5.toNatClampNeg) &&& (63 : Int32)) = 22 then (f_L_law_1497 N xs (fun x5 v => f_L_law_28 N xs  n x5 v) x5 v) else (if ((xs x5.toNatClampNeg) &&& (63 : Int32)) = 23 then (f_L_law_1553 N xs (fun x5 v => f_L_law_28 N xs  n x5 v) x5 v) else (if ((xs x5.toNatClampNeg) &&& (63 : Int32)) = 24 then (f_L_law_1609 N xs (fun x5 v => f_L_law_28 N xs  n x5 v) x5 v) else (if ((xs x5.toNatClampNeg) &&& (63 : Int32)) = 25 then (f_L_law_1665 N xs (fun x5 v => f_L_law_28 N xs  n x5 v) x5 v) else (if ((xs x5.toNatClampNeg) &&& (63 : Int32)) = 26 then (f_L_law_1721 N xs (fun x5 v => f_L_law_28 N xs  n x5 v) x5 v) else (if ((xs x5.toNatClampNeg) &&& (63 : Int32)) = 27 then (f_L_law_1777 N xs (fun x5 v => f_L_law_28 N xs  n x5 v) x5 v) else (if ((xs x5.toNatClampNeg) &&& (63 : Int32)) = 28 then (f_L_law_1845 N xs (fun x5 v => f_L_law_28 N xs  n x5 v) x5 v) else (if ((xs x5.toNatClampNeg) &&& (63 : Int32)) = 29 then (f_L_law_1901 N xs (fun x5 v => f_L_law_28 N xs  n x5 v) x5 v) else (if ((xs x5.toNatClampNeg) &&& (63 : Int32)) = 30 then (f_L_law_1957 N xs (fun x5 v => f_L_law_28 N xs  n x5 v) x5 v) else (if ((xs x5.toNatClampNeg) &&& (63 : Int32)) = 31 then (f_L_law_1970 N xs (fun x5 v => f_L_law_28 N xs  n x5 v) x5 v) else (if ((xs x5.toNatClampNeg) &&& (63 : Int32)) = 32 then (f_L_law_2026 N xs (fun x5 v => f_L_law_28 N xs  n x5 v) x5 v) else (if ((xs x5.toNatClampNeg) &&& (63 : Int32)) = 33 then (f_L_law_2082 N xs (fun x5 v => f_L_law_28 N xs  n x5 v) x5 v) else (if ((xs x5.toNatClampNeg) &&& (63 : Int32)) = 34 then (f_L_law_2138 N xs (fun x5 v => f_L_law_28 N xs  n x5 v) x5 v) else (if ((xs x5.toNatClampNeg) &&& (63 : Int32)) = 35 then (f_L_law_2194 N xs (fun x5 v => f_L_law_28 N xs  n x5 v) x5 v) else (if ((xs x5.toNatClampNeg) &&& (63 : Int32)) = 36 then (f_L_law_2208 N xs (fun x5 v => f_L_law_28 N xs  n x5 v) x5 v) else (if ((xs x5.toNatClampNeg) &&& (63 : Int32)) = 37 then (f_L_law_2263 N xs (fun x5 v => f_L_law_28 N xs  n x5 v) x5 v) else (if ((xs x5.toNatClampNeg) &&& (63 : Int32)) = 38 then (f_L_law_2318 N xs (fun x5 v => f_L_law_28 N xs  n x5 v) x5 v) else (if ((xs x5.toNatClampNeg) &&& (63 : Int32)) = 39 then (f_L_law_2331 N xs (fun x5 v => f_L_law_28 N xs  n x5 v) x5 v) else (if ((xs x5.toNatClampNeg) &&& (63 : Int32)) = 40 then (f_L_law_2399 N xs (fun x5 v => f_L_law_28 N xs  n x5 v) x5 v) else (if ((xs x5.toNatClampNeg) &&& (63 : Int32)) = 41 then (f_L_law_2412 N xs (fun x5 v => f_L_law_28 N xs  n x5 v) x5 v) else (if ((xs x5.toNatClampNeg) &&& (63 : Int32)) = 42 then (f_L_law_2468 N xs (fun x5 v => f_L_law_28 N xs  n x5 v) x5 v) else (if ((xs x5.toNatClampNeg) &&& (63 : Int32)) = 43 then (f_L_law_2524 N xs (fun x5 v => f_L_law_28 N xs  n x5 v) x5 v) else (if ((xs x5.toNatClampNeg) &&& (63 : Int32)) = 44 then (f_L_law_2537 N xs (fun x5 v => f_L_law_28 N xs  n x5 v) x5 v) else (if ((xs x5.toNatClampNeg) &&& (63 : Int32)) = 45 then (f_L_law_2550 N xs (fun x5 v => f_L_law_28 N xs  n x5 v) x5 v) else (if ((xs x5.toNatClampNeg) &&& (63 : Int32)) = 46 then (f_L_law_2618 N xs (fun x5 v => f_L_law_28 N xs  n x5 v) x5 v) else (if ((xs x5.toNatClampNeg) &&& (63 : Int32)) = 47 then (f_L_law_2686 N xs (fun x5 v => f_L_law_28 N xs  n x5 v) x5 v) else (if ((xs x5.toNatClampNeg) &&& (63 : Int32)) = 48 then (f_L_law_2742 N xs (fun x5 v => f_L_law_28 N xs  n x5 v) x5 v) else (if ((xs x5.toNatClampNeg) &&& (63 : Int32)) = 49 then (f_L_law_2798 N xs (fun x5 v => f_L_law_28 N xs  n x5 v) x5 v) else (if ((xs x5.toNatClampNeg) &&& (63 : Int32)) = 50 then (f_L_law_2863 N xs (fun x5 v => f_L_law_28 N xs  n x5 v) x5 v) else (if ((xs x5.toNatClampNeg) &&& (63 : Int32)) = 51 then (f_L_law_2929 N xs (fun x5 v => f_L_law_28 N xs  n x5 v) x5 v) else (if ((xs x5.toNatClampNeg) &&& (63 : Int32)) = 52 then (f_L_law_2942 N xs (fun x5 v => f_L_law_28 N xs  n x5 v) x5 v) else (if ((xs x5.toNatClampNeg) &&& (63 : Int32)) = 53 then (f_L_law_2998 N xs (fun x5 v => f_L_law_28 N xs  n x5 v) x5 v) else (if ((xs x5.toNatClampNeg) &&& (63 : Int32)) = 54 then (f_L_law_3054 N xs (fun x5 v => f_L_law_28 N xs  n x5 v) x5 v) else (if ((xs x5.toNatClampNeg) &&& (63 : Int32)) = 55 then (f_L_law_3110 N xs (fun x5 v => f_L_law_28 N xs  n x5 v) x5 v) else (if ((xs x5.toNatClampNeg) &&& (63 : Int32)) = 56 then (f_L_law_3168 N xs (fun x5 v => f_L_law_28 N xs  n x5 v) x5 v) else (if ((xs x5.toNatClampNeg) &&& (63 : Int32)) = 57 then (f_L_law_3212 N xs (fun x5 v => f_L_law_28 N xs  n x5 v) x5 v) else (if ((xs x5.toNatClampNeg) &&& (63 : Int32)) = 58 then (f_L_law_3256 N xs (fun x5 v => f_L_law_28 N xs  n x5 v) x5 v) else (if ((xs x5.toNatClampNeg) &&& (63 : Int32)) = 59 then (f_L_law_3300 N xs (fun x5 v => f_L_law_28 N xs  n x5 v) x5 v) else (if ((xs x5.toNatClampNeg) &&& (63 : Int32)) = 60 then (f_L_law_3344 N xs (fun x5 v => f_L_law_28 N xs  n x5 v) x5 v) else (if ((xs x5.toNatClampNeg) &&& (63 : Int32)) = 61 then (f_L_law_3357 N xs (fun x5 v => f_L_law_28 N xs  n x5 v) x5 v) else (f_L_law_3401 N xs (fun x5 v => f_L_law_28 N xs  n x5 v) x5 v)))))))))))))))))))))))))))))))))))))))))))))))))))))))))))))))
def p_L_law_28 (N : Nat) (xs : Nat → Int32) : Nat → Int32 → gV → Prop
  | 0, _, _ => False
  | n + 1, x5, v => ((((nI N) - (5 : Int32)) < x5) → (True)) ∧ (¬ (((nI N) - (5 : Int32)) < x5) → ((vp_in x5 N) ∧ (((((xs x5.toNatClampNeg) &&& (63 : Int32)) = 0) → (p_L_law_308 N xs (fun x5 v => f_L_law_28 N xs  n x5 v) (fun x5 v => p_L_law_28 N xs   n x5 v) x5 v)) ∧ (¬ (((xs x5.toNatClampNeg) &&& (63 : Int32)) = 0) → (((((xs x5.toNatClampNeg) &&& (63 : Int32)) = 1) → (p_L_law_388 N xs (fun x5 v => f_L_law_28 N xs  n x5 v) (fun x5 v => p_L_law_28 N xs   n x5 v) x5 v)) ∧ (¬ (((xs x5.toNatClampNeg) &&& (63 : Int32)) = 1) → (((((xs x5.toNatClampNeg) &&& (63 : Int32)) = 2) → (p_L_law_444 N xs (fun x5 v => f_L_law_28 N xs  n x5 v) (fun x5 v => p_L_law_28 N xs   n x5 v) x5 v)) ∧ (¬ (((xs x5.toNatClampNeg) &&& (63 : Int32)) = 2) → (((((xs x5.toNatClampNeg) &&& (63 : Int32)) = 3) → (p_L_law_536 N xs (fun x5 v => f_L_law_28 N xs  n x5 v) (fun x5 v => p_L_law_28 N xs   n x5 v) x5 v)) ∧ (¬ (((xs x5.toNatClampNeg) &&& (63 : Int32)) = 3) → (((((xs x5.toNatClampNeg) &&& (63 : Int32)) = 4) → (p_L_law_592 N xs (fun x5 v => f_L_law_28 N xs  n x5 v) (fun x5 v => p_L_law_28 N xs   n x5 v) x5 v)) ∧ (¬ (((xs x5.toNatClampNeg) &&& (63 : Int32)) = 4) → (((((xs x5.toNatClampNeg) &&& (63 : Int32)) = 5) → (p_L_law_674 N xs (fun x5 v => f_L_law_28 N xs  n x5 v) (fun x5 v => p_L_law_28 N xs   n x5 v) x5 v)) ∧ (¬ (((xs x5.toNatClampNeg) &&& (63 : Int32)) = 5) → (((((xs x5.toNatClampNeg) &&& (63 : Int32)) = 6) → (p_L_law_742 N xs (fun x5 v => f_L_law_28 N xs  n x5 v) (fun x5 v => p_L_law_28 N xs   n x5 v) x5 v)) ∧ (¬ (((xs x5.toNatClampNeg) &&& (63 : Int32)) = 6) → (((((xs x5.toNatClampNeg) &&& (63 : Int32)) = 7) → (p_L_law_798 N xs (fun x5 v => f_L_law_28 N xs  n x5 v) (fun x5 v => p_L_law_28 N xs   n x5 v) x5 v)) ∧ (¬ (((xs x5.toNatClampNeg) &&& (63 : Int32)) = 7) → (((((xs x5.toNatClampNeg) &&& (63 : Int32)) = 8) → (p_L_law_854 N xs (fun x5 v => f_L_law_28 N xs  n x5 v) (fun x5 v => p_L_law_28 N xs   n x5 v) x5 v)) ∧ (¬ (((xs x5.toNatClampNeg) &&& (63 : Int32)) = 8) → (((((xs x5.toNatClampNeg) &&& (63 : Int32)) = 9) → (p_L_law_934 N xs (fun x5 v => f_L_law_28 N xs  n x5 v) (fun x5 v => p_L_law_28 N xs   n x5 v) x5 v)) ∧ (¬ (((xs x5.toNatClampNeg) &&& (63 : Int32)) = 9) → (((((xs x5.toNatClampNeg) &&& (63 : Int32)) = 10) → (p_L_law_990 N xs (fun x5 v => f_L_law_28 N xs  n x5 v) (fun x5 v => p_L_law_28 N xs   n x5 v) x5 v)) ∧ (¬ (((xs x5.toNatClampNeg) &&& (63 : Int32)) = 10) → (((((xs x5.toNatClampNeg) &&& (63 : Int32)) = 11) → (p_L_law_1046 N xs (fun x5 v => f_L_law_28 N xs  n x5 v) (fun x5 v => p_L_law_28 N xs   n x5 v) x5 v)) ∧ (¬ (((xs x5.toNatClampNeg) &&& (63 : Int32)) = 11) → (((((xs x5.toNatClampNeg) &&& (63 : Int32)) = 12) → (p_L_law_1059 N xs (fun x5 v => f_L_law_28 N xs  n x5 v) (fun x5 v => p_L_law_28 N xs   n x5 v) x5 v)) ∧ (¬ (((xs x5.toNatClampNeg) &&& (63 : Int32)) = 12) → (((((xs x5.toNatClampNeg) &&& (63 : Int32)) = 13) → (p_L_law_1072 N xs (fun x5 v => f_L_law_28 N xs  n x5 v) (fun x5 v => p_L_law_28 N xs   n x5 v) x5 v)) ∧ (¬ (((xs x5.toNatClampNeg) &&& (63 : Int32)) = 13) → (((((xs x5.toNatClampNeg) &&& (63 : Int32)) = 14) → (p_L_law_1085 N xs (fun x5 v => f_L_law_28 N xs  n x5 v) (fun x5 v => p_L_law_28 N xs   n x5 v) x5 v)) ∧ (¬ (((xs x5.toNatClampNeg) &&& (63 : Int32)) = 14) → (((((xs x5.toNatClampNeg) &&& (63 : Int32)) = 15) → (p_L_law_1141 N xs (fun x5 v => f_L_law_28 N xs  n x5 v) (fun x5 v => p_L_law_28 N xs   n x5 v) x5 v)) ∧ (¬ (((xs x5.toNatClampNeg) &&& (63 : Int32)) = 15) → (((((xs x5.toNatClampNeg) &&& (63 : Int32)) = 16) → (p_L_law_1197 N xs (fun x5 v => f_L_law_28 N xs  n x5 v) (fun x5 v => p_L_law_28 N xs   n x5 v) x5 v)) ∧ (¬ (((xs x5.toNatClampNeg) &&& (63 : Int32)) = 16) → (((((xs x5.toNatClampNeg) &&& (63 : Int32)) = 17) → (p_L_law_1253 N xs (fun x5 v => f_L_law_28 N xs  n x5 v) (fun x5 v => p_L_law_28 N xs   n x5 v) x5 v)) ∧ (¬ (((xs x5.toNatClampNeg) &&& (63 : Int32)) = 17) → (((((xs x5.toNatClampNeg) &&& (63 : Int32)) = 18) → (p_L_law_1309 N xs (fun x5 v => f_L_law_28 N xs  n x5 v) (fun x5 v => p_L_law_28 N xs   n x5 v) x5 v)) ∧ (¬ (((xs x5.toNatClampNeg) &&& (63 : Int32)) = 18) → (((((xs x5.toNatClampNeg) &&& (63 : Int32)) = 19) → (p_L_law_1365 N xs (fun x5 v => f_L_law_28 N xs  n x5 v) (fun x5 v => p_L_law_28 N xs   n x5 v) x5 v)) ∧ (¬ (((xs x5.toNatClampNeg) &&& (63 : Int32)) = 19) → (((((xs x5.toNatClampNeg) &&& (63 : Int32)) = 20) → (p_L_law_1421 N xs (fun x5 v => f_L_law_28 N xs  n x5 v) (fun x5 v => p_L_law_28 N xs   n x5 v) x5 v)) ∧ (¬ (((xs x5.toNatClampNeg) &&& (63 : Int32)) = 20) → (((((xs x5.toNatClampNeg) &&& (63 : Int32)) = 21) → (p_L_law_1484 N xs (fun x5 v => f_L_law_28 N xs  n x5 v) (fun x5 v => p_L_law_28 N xs   n x5 v) x5 v)) ∧ (¬ (((xs x5.toNatClampNeg) &&& (63 : Int32)) = 21) → (((((xs x5.toNatClampNeg) &&& (63 : Int32)) = 22) → (p_L_law_1497 N xs (fun x5 v => f_L_law_28 N xs  n x5 v) (fun x5 v => p_L_law_28 N xs   n x5 v) x5 v)) ∧ (¬ (((xs x5.toNatClampNeg) &&& (63 : Int32)) = 22) → (((((xs x5.toNatClampNeg) &&& (63 : Int32)) = 23) → (p_L_law_1553 N xs (fun x5 v => f_L_law_28 N xs  n x5 v) (fun x5 v => p_L_law_28 N xs   n x5 v) x5 v)) ∧ (¬ (((xs x5.toNatClampNeg) &&& (63 : Int32)) = 23) → (((((xs x5.toNatClampNeg) &&& (63 : Int32)) = 24) → (p_L_law_1609 N xs (fun x5 v => f_L_law_28 N xs  n x5 v) (fun x5 v => p_L_law_28 N xs   n x5 v) x5 v)) ∧ (¬ (((xs x5.toNatClampNeg) &&& (63 : Int32)) = 24) → (((((xs x5.toNatClampNeg) &&& (63 : Int32)) = 25) → (p_L_law_1665 N xs (fun x5 v => f_L_law_28 N xs  n x5 v) (fun x5 v => p_L_law_28 N xs   n x5 v) x5 v)) ∧ (¬ (((xs x5.toNatClampNeg) &&& (63 : Int32)) = 25) → (((((xs x5.toNatClampNeg) &&& (63 : Int32)) = 26) → (p_L_law_1721 N xs (fun x5 v => f_L_law_28 N xs  n x5 v) (fun x5 v => p_L_law_28 N xs   n x5 v) x5 v)) ∧ (¬ (((xs x5.toNatClampNeg) &&& (63 : Int32)) = 26) → (((((xs x5.toNatClampNeg) &&& (63 : Int32)) = 27) → (p_L_law_1777 N xs (fun x5 v => f_L_law_28 N xs  n x5 v) (fun x5 v => p_L_law_28 N xs   n x5 v) x5 v)) ∧ (¬ (((xs x5.toNatClampNeg) &&& (63 : Int32)) = 27) → (((((xs x5.toNatClampNeg) &&& (63 : Int32)) = 28) → (p_L_law_1845 N xs (fun x5 v => f_L_law_28 N xs  n x5 v) (fun x5 v => p_L_law_28 N xs   n x5 v) x5 v)) ∧ (¬ (((xs x5.toNatClampNeg) &&& (63 : Int32)) = 28) → (((((xs x5.toNatClampNeg) &&& (63 : Int32)) = 29) → (p_L_law_1901 N xs (fun x5 v => f_L_law_28 N xs  n x5 v) (fun x5 v => p_L_law_28 N xs   n x5 v) x5 v)) ∧ (¬ (((xs x5.toNatClampNeg) &&& (63 : Int32)) = 29) → (((((xs x5.toNatClampNeg) &&& (63 : Int32)) = 30) → (p_L_law_1957 N xs (fun x5 v => f_L_law_28 N xs  n x5 v) (fun x5 v => p_L_law_28 N xs   n x5 v) x5 v)) ∧ (¬ (((xs x5.toNatClampNeg) &&& (63 : Int32)) = 30) → (((((xs x5.toNatClampNeg) &&& (63 : Int32)) = 31) → (p_L_law_1970 N xs (fun x5 v => f_L_law_28 N xs  n x5 v) (fun x5 v => p_L_law_28 N xs   n x5 v) x5 v)) ∧ (¬ (((xs x5.toNatClampNeg) &&& (63 : Int32)) = 31) → (((((xs x5.toNatClampNeg) &&& (63 : Int32)) = 32) → (p_L_law_2026 N xs (fun x5 v => f_L_law_28 N xs  n x5 v) (fun x5 v => p_L_law_28 N xs   n x5 v) x5 v)) ∧ (¬ (((xs x5.toNatClampNeg) &&& (63 : Int32)) = 32) → (((((xs x5.toNatClampNeg) &&& (63 : Int32)) = 33) → (p_L_law_2082 N xs (fun x5 v => f_L_law_28 N xs  n x5 v) (fun x5 v => p_L_law_28 N xs   n x5 v) x5 v)) ∧ (¬ (((xs x5.toNatClampNeg) &&& (63 : Int32)) = 33) → (((((xs x5.toNatClampNeg) &&& (63 : Int32)) = 34) → (p_L_law_2138 N xs (fun x5 v => f_L_law_28 N xs  n x5 v) (fun x5 v => p_L_law_28 N xs   n x5 v) x5 v)) ∧ (¬ (((xs x5.toNatClampNeg) &&& (63 : Int32)) = 34) → (((((xs x5.toNatClampNeg) &&& (63 : Int32)) = 35) → (p_L_law_2194 N xs (fun x5 v => f_L_law_28 N xs  n x5 v) (fun x5 v => p_L_law_28 N xs   n x5 v) x5 v)) ∧ (¬ (((xs x5.toNatClampNeg) &&& (63 : Int32)) = 35) → (((((xs x5.toNatClampNeg) &&& (63 : Int32)) = 36) → (p_L_law_2208 N xs (fun x5 v => f_L_law_28 N xs  n x5 v) (fun x5 v => p_L_law_28 N xs   n x5 v) x5 v)) ∧ (¬ (((xs x5.toNatClampNeg) &&& (63 : Int32)) = 36) → (((((xs x5.toNatClampNeg) &&& (63 : Int32)) = 37) → (p_L_law_2263 N xs (fun x5 v => f_L_law_28 N xs  n x5 v) (fun x5 v => p_L_law_28 N xs   n x5 v) x5 v)) ∧ (¬ (((xs x5.toNatClampNeg) &&& (63 : Int32)) = 37) → (((((xs x5.toNatClampNeg) &&& (63 : Int32)) = 38) → (p_L_law_2318 N xs (fun x5 v => f_L_law_28 N xs  n x5 v) (fun x5 v => p_L_law_28 N xs   n x5 v) x5 v)) ∧ (¬ (((xs x5.toNatClampNeg) &&& (63 : Int32)) = 38) → (((((xs x5.toNatClampNeg) &&& (63 : Int32)) = 39) → (p_L_law_2331 N xs (fun x5 v => f_L_law_28 N xs  n x5 v) (fun x5 v => p_L_law_28 N xs   n x5 v) x5 v)) ∧ (¬ (((xs x5.toNatClampNeg) &&& (63 : Int32)) = 39) → (((((xs x5.toNatClampNeg) &&& (63 : Int32)) = 40) → (p_L_law_2399 N xs (fun x5 v => f_L_law_28 N xs  n x5 v) (fun x5 v => p_L_law_28 N xs   n x5 v) x5 v)) ∧ (¬ (((xs x5.toNatClampNeg) &&& (63 : Int32)) = 40) → (((((xs x5.toNatClampNeg) &&& (63 : Int32)) = 41) → (p_L_law_2412 N xs (fun x5 v => f_L_law_28 N xs  n x5 v) (fun x5 v => p_L_law_28 N xs   n x5 v) x5 v)) ∧ (¬ (((xs x5.toNatClampNeg) &&& (63 : Int32)) = 41) → (((((xs x5.toNatClampNeg) &&& (63 : Int32)) = 42) → (p_L_law_2468 N xs (fun x5 v => f_L_law_28 N xs  n x5 v) (fun x5 v => p_L_law_28 N xs   n x5 v) x5 v)) ∧ (¬ (((xs x5.toNatClampNeg) &&& (63 : Int32)) = 42) → (((((xs x5.toNatClampNeg) &&& (63 : Int32)) = 43) → (p_L_law_2524 N xs (fun x5 v => f_L_law_28 N xs  n x5 v) (fun x5 v => p_L_law_28 N xs   n x5 v) x5 v)) ∧ (¬ (((xs x5.toNatClampNeg) &&& (63 : Int32)) = 43) → (((((xs x5.toNatClampNeg) &&& (63 : Int32)) = 44) → (p_L_law_2537 N xs (fun x5 v => f_L_law_28 N xs  n x5 v) (fun x5 v => p_L_law_28 N xs   n x5 v) x5 v)) ∧ (¬ (((xs x5.toNatClampNeg) &&& (63 : Int32)) = 44) → (((((xs x5.toNatClampNeg) &&& (63 : Int32)) = 45) → (p_L_law_2550 N xs (fun x5 v => f_L_law_28 N xs  n x5 v) (fun x5 v => p_L_law_28 N xs   n x5 v) x5 v)) ∧ (¬ (((xs x5.toNatClampNeg) &&& (63 : Int32)) = 45) → (((((xs x5.toNatClampNeg) &&& (63 : Int32)) = 46) → (p_L_law_2618 N xs (fun x5 v => f_L_law_28 N xs  n x5 v) (fun x5 v => p_L_law_28 N xs   n x5 v) x5 v)) ∧ (¬ (((xs x5.toNatClampNeg) &&& (63 : Int32)) = 46) → (((((xs x5.toNatClampNeg) &&& (63 : Int32)) = 47) → (p_L_law_2686 N xs (fun x5 v => f_L_law_28 N xs  n x5 v) (fun x5 v => p_L_law_28 N xs   n x5 v) x5 v)) ∧ (¬ (((xs x5.toNatClampNeg) &&& (63 : Int32)) = 47) → (((((xs x5.toNatClampNeg) &&& (63 : Int32)) = 48) → (p_L_law_2742 N xs (fun x5 v => f_L_law_28 N xs  n x5 v) (fun x5 v => p_L_law_28 N xs   n x5 v) x5 v)) ∧ (¬ (((xs x5.toNatClampNeg) &&& (63 : Int32)) = 48) → (((((xs x5.toNatClampNeg) &&& (63 : Int32)) = 49) → (p_L_law_2798 N xs (fun x5 v => f_L_law_28 N xs  n x5 v) (fun x5 v => p_L_law_28 N xs   n x5 v) x5 v)) ∧ (¬ (((xs x5.toNatClampNeg) &&& (63 : Int32)) = 49) → (((((xs x5.toNatClampNeg) &&& (63 : Int32)) = 50) → (p_L_law_2863 N xs (fun x5 v => f_L_law_28 N xs  n x5 v) (fun x5 v => p_L_law_28 N xs   n x5 v) x5 v)) ∧ (¬ (((xs x5.toNatClampNeg) &&& (63 : Int32)) = 50) → (((((xs x5.toNatClampNeg) &&& (63 : Int32)) = 51) → (p_L_law_2929 N xs (fun x5 v => f_L_law_28 N xs  n x5 v) (fun x5 v => p_L_law_28 N xs   n x5 v) x5 v)) ∧ (¬ (((xs x5.toNatClampNeg) &&& (63 : Int32)) = 51) → (((((xs x5.toNatClampNeg) &&& (63 : Int32)) = 52) → (p_L_law_2942 N xs (fun x5 v => f_L_law_28 N xs  n x5 v) (fun x5 v => p_L_law_28 N xs   n x5 v) x5 v)) ∧ (¬ (((xs x5.toNatClampNeg) &&& (63 : Int32)) = 52) → (((((xs x5.toNatClampNeg) &&& (63 : Int32)) = 53) → (p_L_law_2998 N xs (fun x5 v => f_L_law_28 N xs  n x5 v) (fun x5 v => p_L_law_28 N xs   n x5 v) x5 v)) ∧ (¬ (((xs x5.toNatClampNeg) &&& (63 : Int32)) = 53) → (((((xs x5.toNatClampNeg) &&& (63 : Int32)) = 54) → (p_L_law_3054 N xs (fun x5 v => f_L_law_28 N xs  n x5 v) (fun x5 v => p_L_law_28 N xs   n x5 v) x5 v)) ∧ (¬ (((xs x5.toNatClampNeg) &&& (63 : Int32)) = 54) → (((((xs x5.toNatClampNeg) &&& (63 : Int32)) = 55) → (p_L_law_3110 N xs (fun x5 v => f_L_law_28 N xs  n x5 v) (fun x5 v => p_L_law_28 N xs   n x5 v) x5 v)) ∧ (¬ (((xs x5.toNatClampNeg) &&& (63 : Int32)) = 55) → (((((xs x5.toNatClampNeg) &&& (63 : Int32)) = 56) → (p_L_law_3168 N xs (fun x5 v => f_L_law_28 N xs  n x5 v) (fun x5 v => p_L_law_28 N xs   n x5 v) x5 v)) ∧ (¬ (((xs x5.toNatClampNeg) &&& (63 : Int32)) = 56) → (((((xs x5.toNatClampNeg) &&& (63 : Int32)) = 57) → (p_L_law_3212 N xs (fun x5 v => f_L_law_28 N xs  n x5 v) (fun x5 v => p_L_law_28 N xs   n x5 v) x5 v)) ∧ (¬ (((xs x5.toNatClampNeg) &&& (63 : Int32)) = 57) → (((((xs x5.toNatClampNeg) &&& (63 : Int32)) = 58) → (p_L_law_3256 N xs (fun x5 v => f_L_law_28 N xs  n x5 v) (fun x5 v => p_L_law_28 N xs   n x5 v) x5 v)) ∧ (¬ (((xs x5.toNatClampNeg) &&& (63 : Int32)) = 58) → (((((xs x5.toNatClampNeg) &&& (63 : Int32)) = 59) → (p_L_law_3300 N xs (fun x5 v => f_L_law_28 N xs  n x5 v) (fun x5 v => p_L_law_28 N xs   n x5 v) x5 v)) ∧ (¬ (((xs x5.toNatClampNeg) &&& (63 : Int32)) = 59) → (((((xs x5.toNatClampNeg) &&& (63 : Int32)) = 60) → (p_L_law_3344 N xs (fun x5 v => f_L_law_28 N xs  n x5 v) (fun x5 v => p_L_law_28 N xs   n x5 v) x5 v)) ∧ (¬ (((xs x5.toNatClampNeg) &&& (63 : Int32)) = 60) → (((((xs x5.toNatClampNeg) &&& (63 : Int32)) = 61) → (p_L_law_3357 N xs (fun x5 v => f_L_law_28 N xs  n x5 v) (fun x5 v => p_L_law_28 N xs   n x5 v) x5 v)) ∧ (¬ (((xs x5.toNatClampNeg) &&& (63 : Int32)) = 61) → (p_L_law_3401 N xs (fun x5 v => f_L_law_28 N xs  n x5 v) (fun x5 v => p_L_law_28 N xs   n x5 v) x5 v)))))))))))))))))))))))))))))))))))))))))))))))))))))))))))))))))))))))))))))))))))))))))))))))))))))))))))))))))))))))))))))))
set_option maxHeartbeats 4000000 in
set_option maxRecDepth 100000 in
theorem w_L_law_28 {E : gE} {d : Nat} {Q : gO → gS → Prop} (N : Nat) (xs : Nat → Int32) (hN : gva E 201 = N) (hxs : gxs E = xs) (hd : 16 ≤ d) : ∀ (n : Nat) (x5 : Int32) (v : gV), p_L_law_28 N xs   n x5 v → gqIV Q (f_L_law_28 N xs  n x5 v) → gG E m_L_law d Q (322 * n) (2566 * n) (rS v) 28 [(0, .ref (gva E 200)), (1, .ref (gX E + 0)), (2, .ref (gX E + 559)), (3, .ref (gX E + 570)), (4, .ref (gX E + 571)), (5, .int x5)] [] := by
  intro n
  induction n with
  | zero => intro x5 v hp; exact hp.elim
  | succ n ih =>
    intro x5 v hp hQ
    refine g_iload 5 dL_law_28 rfl ?_
    refine g_aload_n 0 dL_law_30 rfl ?_
    refine g_slen hN dL_law_31 ?_
    refine g_iconst dL_law_32 (5 : Int32) (by decide) ?_
    refine g_isub dL_law_33 ?_
    refine g_icmp_gt 3407 dL_law_34 (by decide) (fun h1 => ?_) (fun h1 => ?_)
    · have hQ := qp (P := gqIV Q) h1 hQ
      have hp := hp.1 h1
      refine g_iconst dL_law_3407 (1 : Int32) (by decide) ?_
      exact g_zret rfl rfl dL_law_3408 hQ
    · have hQ := qn (P := gqIV Q) h1 hQ
      have hp := hp.2 h1
      refine g_aload_n 0 dL_law_37 rfl ?_
      refine g_iload 5 dL_law_38 rfl ?_
      obtain ⟨h2, hp⟩ := hp
      refine g_sld hN hxs h2 dL_law_40 ?_
      refine g_bipush dL_law_41 (63 : Int32) (by decide) ?_
      refine g_iand dL_law_43 ?_
      by_cases h3 : ((xs x5.toNatClampNeg) &&& (63 : Int32)) = 0
      · have hQ := qp (P := gqIV Q) h3 hQ
        have hp := hp.1 h3
        refine g_tableIn 308 dL_law_44 (by rw [h3]; decide) (by rw [h3]; decide) (by rw [h3]; rfl) (by decide) ?_
        refine g_room (k' := (322 * n + 4)) (n' := (2566 * n + 24)) (by omega) (by omega) ?_
        exact w_L_law_308 n N xs hN hxs hd (fun x5 v => f_L_law_28 N xs  n x5 v) (fun x5 v => p_L_law_28 N xs   n x5 v) ih x5 v hp hQ
      have hQ := qn (P := gqIV Q) h3 hQ
      have hp := hp.2 h3
      by_cases h16 : ((xs x5.toNatClampNeg) &&& (63 : Int32)) = 1
      · have hQ := qp (P := gqIV Q) h16 hQ
        have hp := hp.1 h16
        refine g_tableIn 388 dL_law_44 (by rw [h16]; decide) (by rw [h16]; decide) (by rw [h16]; rfl) (by decide) ?_
        refine g_room (k' := (322 * n + 2)) (n' := (2566 * n + 12)) (by omega) (by omega) ?_
        exact w_L_law_388 n N xs hN hxs hd (fun x5 v => f_L_law_28 N xs  n x5 v) (fun x5 v => p_L_law_28 N xs   n x5 v) ih x5 v hp hQ
      have hQ := qn (P := gqIV Q) h16 hQ
      have hp := hp.2 h16
      by_cases h25 : ((xs x5.toNatClampNeg) &&& (63 : Int32)) = 2
      · have hQ := qp (P := gqIV Q) h25 hQ
        have hp := hp.1 h25
        refine g_tableIn 444 dL_law_44 (by rw [h25]; decide) (by rw [h25]; decide) (by rw [h25]; rfl) (by decide) ?_
        refine g_room (k' := (322 * n + 5)) (n' := (2566 * n + 30)) (by omega) (by omega) ?_
        exact w_L_law_444 n N xs hN hxs hd (fun x5 v => f_L_law_28 N xs  n x5 v) (fun x5 v => p_L_law_28 N xs   n x5 v) ih x5 v hp hQ
      have hQ := qn (P := gqIV Q) h25 hQ
      have hp := hp.2 h25
      by_cases h40 : ((xs x5.toNatClampNeg) &&& (63 : Int32)) = 3
      · have hQ := qp (P := gqIV Q) h40 hQ
        have hp := hp.1 h40
        refine g_tableIn 536 dL_law_44 (by rw [h40]; decide) (by rw [h40]; decide) (by rw [h40]; rfl) (by decide) ?_
        refine g_room (k' := (322 * n + 2)) (n' := (2566 * n + 12)) (by omega) (by omega) ?_
        exact w_L_law_536 n N xs hN hxs hd (fun x5 v => f_L_law_28 N xs  n x5 v) (fun x5 v => p_L_law_28 N xs   n x5 v) ih x5 v hp hQ
      have hQ := qn (P := gqIV Q) h40 hQ
      have hp := hp.2 h40
      by_cases h49 : ((xs x5.toNatClampNeg) &&& (63 : Int32)) = 4
      · have hQ := qp (P := gqIV Q) h49 hQ
        have hp := hp.1 h49
        refine g_tableIn 592 dL_law_44 (by rw [h49]; decide) (by rw [h49]; decide) (by rw [h49]; rfl) (by decide) ?_
        refine g_room (k' := (322 * n + 3)) (n' := (2566 * n + 18)) (by omega) (by omega) ?_
        exact w_L_law_592 n N xs hN hxs hd (fun x5 v => f_L_law_28 N xs  n x5 v) (fun x5 v => p_L_law_28 N xs   n x5 v) ih x5 v hp hQ
      have hQ := qn (P := gqIV Q) h49 hQ
      have hp := hp.2 h49
      by_cases h62 : ((xs x5.toNatClampNeg) &&& (63 : Int32)) = 5
      · have hQ := qp (P := gqIV Q) h62 hQ
        have hp := hp.1 h62
        refine g_tableIn 674 dL_law_44 (by rw [h62]; decide) (by rw [h62]; decide) (by rw [h62]; rfl) (by decide) ?_
        refine g_room (k' := (322 * n + 3)) (n' := (2566 * n + 18)) (by omega) (by omega) ?_
        exact w_L_law_674 n N xs hN hxs hd (fun x5 v => f_L_law_28 N xs  n x5 v) (fun x5 v => p_L_law_28 N xs   n x5 v) ih x5 v hp hQ
      have hQ := qn (P := gqIV Q) h62 hQ
      have hp := hp.2 h62
      by_cases h73 : ((xs x5.toNatClampNeg) &&& (63 : Int32)) = 6
      · have hQ := qp (P := gqIV Q) h73 hQ
        have hp := hp.1 h73
        refine g_tableIn 742 dL_law_44 (by rw [h73]; decide) (by rw [h73]; decide) (by rw [h73]; rfl) (by decide) ?_
        refine g_room (k' := (322 * n + 2)) (n' := (2566 * n + 12)) (by omega) (by omega) ?_
        exact w_L_law_742 n N xs hN hxs hd (fun x5 v => f_L_law_28 N xs  n x5 v) (fun x5 v => p_L_law_28 N xs   n x5 v) ih x5 v hp hQ
      have hQ := qn (P := gqIV Q) h73 hQ
      have hp := hp.2 h73
      by_cases h82 : ((xs x5.toNatClampNeg) &&& (63 : Int32)) = 7
      · have hQ := qp (P := gqIV Q) h82 hQ
        have hp := hp.1 h82
        refine g_tableIn 798 dL_law_44 (by rw [h82]; decide) (by rw [h82]; decide) (by rw [h82]; rfl) (by decide) ?_
        refine g_room (k' := (322 * n + 2)) (n' := (2566 * n + 12)) (by omega) (by omega) ?_
        exact w_L_law_798 n N xs hN hxs hd (fun x5 v => f_L_law_28 N xs  n x5 v) (fun x5 v => p_L_law_28 N xs   n x5 v) ih x5 v hp hQ
      have hQ := qn (P := gqIV Q) h82 hQ
      have hp := hp.2 h82
      by_cases h91 : ((xs x5.toNatClampNeg) &&& (63 : Int32)) = 8
      · have hQ := qp (P := gqIV Q) h91 hQ
        have hp := hp.1 h91
        refine g_tableIn 854 dL_law_44 (by rw [h91]; decide) (by rw [h91]; decide) (by rw [h91]; rfl) (by decide) ?_
        refine g_room (k' := (322 * n + 4)) (n' := (2566 * n + 24)) (by omega) (by omega) ?_
        exact w_L_law_854 n N xs hN hxs hd (fun x5 v => f_L_law_28 N xs  n x5 v) (fun x5 v => p_L_law_28 N xs   n x5 v) ih x5 v hp hQ
      have hQ := qn (P := gqIV Q) h91 hQ
      have hp := hp.2 h91
      by_cases h104 : ((xs x5.toNatClampNeg) &&& (63 : Int32)) = 9
      · have hQ := qp (P := gqIV Q) h104 hQ
        have hp := hp.1 h104
        refine g_tableIn 934 dL_law_44 (by rw [h104]; decide) (by rw [h104]; decide) (by rw [h104]; rfl) (by decide) ?_
        refine g_room (k' := (322 * n + 1)) (n' := (2566 * n + 6)) (by omega) (by omega) ?_
        exact w_L_law_934 n N xs hN hxs hd (fun x5 v => f_L_law_28 N xs  n x5 v) (fun x5 v => p_L_law_28 N xs   n x5 v) ih x5 v hp hQ
      have hQ := qn (P := gqIV Q) h104 hQ
      have hp := hp.2 h104
      by_cases h113 : ((xs x5.toNatClampNeg) &&& (63 : Int32)) = 10
      · have hQ := qp (P := gqIV Q) h113 hQ
        have hp := hp.1 h113
        refine g_tableIn 990 dL_law_44 (by rw [h113]; decide) (by rw [h113]; decide) (by rw [h113]; rfl) (by decide) ?_
        refine g_room (k' := (322 * n + 1)) (n' := (2566 * n + 6)) (by omega) (by omega) ?_
        exact w_L_law_990 n N xs hN hxs hd (fun x5 v => f_L_law_28 N xs  n x5 v) (fun x5 v => p_L_law_28 N xs   n x5 v) ih x5 v hp hQ
      have hQ := qn (P := gqIV Q) h113 hQ
      have hp := hp.2 h113
      by_cases h122 : ((xs x5.toNatClampNeg) &&& (63 : Int32)) = 11
      · have hQ := qp (P := gqIV Q) h122 hQ
        have hp := hp.1 h122
        refine g_tableIn 1046 dL_law_44 (by rw [h122]; decide) (by rw [h122]; decide) (by rw [h122]; rfl) (by decide) ?_
        refine g_room (k' := (322 * n + 0)) (n' := (2566 * n + 0)) (by omega) (by omega) ?_
        exact w_L_law_1046 n N xs hN hxs hd (fun x5 v => f_L_law_28 N xs  n x5 v) (fun x5 v => p_L_law_28 N xs   n x5 v) ih x5 v hp hQ
      have hQ := qn (P := gqIV Q) h122 hQ
      have hp := hp.2 h122
      by_cases h126 : ((xs x5.toNatClampNeg) &&& (63 : Int32)) = 12
      · have hQ := qp (P := gqIV Q) h126 hQ
        have hp := hp.1 h126
        refine g_tableIn 1059 dL_law_44 (by rw [h126]; decide) (by rw [h126]; decide) (by rw [h126]; rfl) (by decide) ?_
        refine g_room (k' := (322 * n + 0)) (n' := (2566 * n + 0)) (by omega) (by omega) ?_
        exact w_L_law_1059 n N xs hN hxs hd (fun x5 v => f_L_law_28 N xs  n x5 v) (fun x5 v => p_L_law_28 N xs   n x5 v) ih x5 v hp hQ
      have hQ := qn (P := gqIV Q) h126 hQ
      have hp := hp.2 h126
      by_cases h130 : ((xs x5.toNatClampNeg) &&& (63 : Int32)) = 13
      · have hQ := qp (P := gqIV Q) h130 hQ
        have hp := hp.1 h130
        refine g_tableIn 1072 dL_law_44 (by rw [h130]; decide) (by rw [h130]; decide) (by rw [h130]; rfl) (by decide) ?_
        refine g_room (k' := (322 * n + 0)) (n' := (2566 * n + 0)) (by omega) (by omega) ?_
        exact w_L_law_1072 n N xs hN hxs hd (fun x5 v => f_L_law_28 N xs  n x5 v) (fun x5 v => p_L_law_28 N xs   n x5 v) ih x5 v hp hQ
      have hQ := qn (P := gqIV Q) h130 hQ
      have hp := hp.2 h130
      by_cases h134 : ((xs x5.toNatClampNeg) &&& (63 : Int32)) = 14
      · have hQ := qp (P := gqIV Q) h134 hQ
        have hp := hp.1 h134
        refine g_tableIn 1085 dL_law_44 (by rw [h134]; decide) (by rw [h134]; decide) (by rw [h134]; rfl) (by decide) ?_
        refine g_room (k' := (322 * n + 1)) (n' := (2566 * n + 6)) (by omega) (by omega) ?_
        exact w_L_law_1085 n N xs hN hxs hd (fun x5 v => f_L_law_28 N xs  n x5 v) (fun x5 v => p_L_law_28 N xs   n x5 v) ih x5 v hp hQ
      have hQ := qn (P := gqIV Q) h134 hQ
      have hp := hp.2 h134
      by_cases h143 : ((xs x5.toNatClampNeg) &&& (63 : Int32)) = 15
      · have hQ := qp (P := gqIV Q) h143 hQ
        have hp := hp.1 h143
        refine g_tableIn 1141 dL_law_44 (by rw [h143]; decide) (by rw [h143]; decide) (by rw [h143]; rfl) (by decide) ?_
        refine g_room (k' := (322 * n + 1)) (n' := (2566 * n + 6)) (by omega) (by omega) ?_
        exact w_L_law_1141 n N xs hN hxs hd (fun x5 v => f_L_law_28 N xs  n x5 v) (fun x5 v => p_L_law_28 N xs   n x5 v) ih x5 v hp hQ
      have hQ := qn (P := gqIV Q) h143 hQ
      have hp := hp.2 h143
      by_cases h152 : ((xs x5.toNatClampNeg) &&& (63 : Int32)) = 16
      · have hQ := qp (P := gqIV Q) h152 hQ
        have hp := hp.1 h152
        refine g_tableIn 1197 dL_law_44 (by rw [h152]; decide) (by rw [h152]; decide) (by rw [h152]; rfl) (by decide) ?_
        refine g_room (k' := (322 * n + 1)) (n' := (2566 * n + 6)) (by omega) (by omega) ?_
        exact w_L_law_1197 n N xs hN hxs hd (fun x5 v => f_L_law_28 N xs  n x5 v) (fun x5 v => p_L_law_28 N xs   n x5 v) ih x5 v hp hQ
      have hQ := qn (P := gqIV Q) h152 hQ
      have hp := hp.2 h152
      by_cases h161 : ((xs x5.toNatClampNeg) &&& (63 : Int32)) = 17
      · have hQ := qp (P := gqIV Q) h161 hQ
        have hp := hp.1 h161
        refine g_tableIn 1253 dL_law_44 (by rw [h161]; decide) (by rw [h161]; decide) (by rw [h161]; rfl) (by decide) ?_
        refine g_room (k' := (322 * n + 1)) (n' := (2566 * n + 6)) (by omega) (by omega) ?_
        exact w_L_law_1253 n N xs hN hxs hd (fun x5 v => f_L_law_28 N xs  n x5 v) (fun x5 v => p_L_law_28 N xs   n x5 v) ih x5 v hp hQ
      have hQ := qn (P := gqIV Q) h161 hQ
      have hp := hp.2 h161
      by_cases h170 : ((xs x5.toNatClampNeg) &&& (63 : Int32)) = 18
      · have hQ := qp (P := gqIV Q) h170 hQ
        have hp := hp.1 h170
        refine g_tableIn 1309 dL_law_44 (by rw [h170]; decide) (by rw [h170]; decide) (by rw [h170]; rfl) (by decide) ?_
        refine g_room (k' := (322 * n + 1)) (n' := (2566 * n + 6)) (by omega) (by omega) ?_
        exact w_L_law_1309 n N xs hN hxs hd (fun x5 v => f_L_law_28 N xs  n x5 v) (fun x5 v => p_L_law_28 N xs   n x5 v) ih x5 v hp hQ
      have hQ := qn (P := gqIV Q) h170 hQ
      have hp := hp.2 h170
      by_cases h179 : ((xs x5.toNatClampNeg) &&& (63 : Int32)) = 19
      · have hQ := qp (P := gqIV Q) h179 hQ
        have hp := hp.1 h179
        refine g_tableIn 1365 dL_law_44 (by rw [h179]; decide) (by rw [h179]; decide) (by rw [h179]; rfl) (by decide) ?_
        refine g_room (k' := (322 * n + 1)) (n' := (2566 * n + 6)) (by omega) (by omega) ?_
        exact w_L_law_1365 n N xs hN hxs hd (fun x5 v => f_L_law_28 N xs  n x5 v) (fun x5 v => p_L_law_28 N xs   n x5 v) ih x5 v hp hQ
      have hQ := qn (P := gqIV Q) h179 hQ
      have hp := hp.2 h179
      by_cases h188 : ((xs x5.toNatClampNeg) &&& (63 : Int32)) = 20
      · have hQ := qp (P := gqIV Q) h188 hQ
        have hp := hp.1 h188
        refine g_tableIn 1421 dL_law_44 (by rw [h188]; decide) (by rw [h188]; decide) (by rw [h188]; rfl) (by decide) ?_
        refine g_room (k' := (322 * n + 1)) (n' := (2566 * n + 6)) (by omega) (by omega) ?_
        exact w_L_law_1421 n N xs hN hxs hd (fun x5 v => f_L_law_28 N xs  n x5 v) (fun x5 v => p_L_law_28 N xs   n x5 v) ih x5 v hp hQ
      have hQ := qn (P := gqIV Q) h188 hQ
      have hp := hp.2 h188
      by_cases h198 : ((xs x5.toNatClampNeg) &&& (63 : Int32)) = 21
      · have hQ := qp (P := gqIV Q) h198 hQ
        have hp := hp.1 h198
        refine g_tableIn 1484 dL_law_44 (by rw [h198]; decide) (by rw [h198]; decide) (by rw [h198]; rfl) (by decide) ?_
        refine g_room (k' := (322 * n + 0)) (n' := (2566 * n + 0)) (by omega) (by omega) ?_
        exact w_L_law_1484 n N xs hN hxs hd (fun x5 v => f_L_law_28 N xs  n x5 v) (fun x5 v => p_L_law_28 N xs   n x5 v) ih x5 v hp hQ
      have hQ := qn (P := gqIV Q) h198 hQ
      have hp := hp.2 h198
      by_cases h202 : ((xs x5.toNatClampNeg) &&& (63 : Int32)) = 22
      · have hQ := qp (P := gqIV Q) h202 hQ
        have hp := hp.1 h202
        refine g_tableIn 1497 dL_law_44 (by rw [h202]; decide) (by rw [h202]; decide) (by rw [h202]; rfl) (by decide) ?_
        refine g_room (k' := (322 * n + 1)) (n' := (2566 * n + 6)) (by omega) (by omega) ?_
        exact w_L_law_1497 n N xs hN hxs hd (fun x5 v => f_L_law_28 N xs  n x5 v) (fun x5 v => p_L_law_28 N xs   n x5 v) ih x5 v hp hQ
      have hQ := qn (P := gqIV Q) h202 hQ
      have hp := hp.2 h202
      by_cases h211 : ((xs x5.toNatClampNeg) &&& (63 : Int32)) = 23
      · have hQ := qp (P := gqIV Q) h211 hQ
        have hp := hp.1 h211
        refine g_tableIn 1553 dL_law_44 (by rw [h211]; decide) (by rw [h211]; decide) (by rw [h211]; rfl) (by decide) ?_
        refine g_room (k' := (322 * n + 1)) (n' := (2566 * n + 6)) (by omega) (by omega) ?_
        exact w_L_law_1553 n N xs hN hxs hd (fun x5 v => f_L_law_28 N xs  n x5 v) (fun x5 v => p_L_law_28 N xs   n x5 v) ih x5 v hp hQ
      have hQ := qn (P := gqIV Q) h211 hQ
      have hp := hp.2 h211
      by_cases h220 : ((xs x5.toNatClampNeg) &&& (63 : Int32)) = 24
      · have hQ := qp (P := gqIV Q) h220 hQ
        have hp := hp.1 h220
        refine g_tableIn 1609 dL_law_44 (by rw [h220]; decide) (by rw [h220]; decide) (by rw [h220]; rfl) (by decide) ?_
        refine g_room (k' := (322 * n + 1)) (n' := (2566 * n + 6)) (by omega) (by omega) ?_
        exact w_L_law_1609 n N xs hN hxs hd (fun x5 v => f_L_law_28 N xs  n x5 v) (fun x5 v => p_L_law_28 N xs   n x5 v) ih x5 v hp hQ
      have hQ := qn (P := gqIV Q) h220 hQ
      have hp := hp.2 h220
      by_cases h229 : ((xs x5.toNatClampNeg) &&& (63 : Int32)) = 25
      · have hQ := qp (P := gqIV Q) h229 hQ
        have hp := hp.1 h229
        refine g_tableIn 1665 dL_law_44 (by rw [h229]; decide) (by rw [h229]; decide) (by rw [h229]; rfl) (by decide) ?_
        refine g_room (k' := (322 * n + 1)) (n' := (2566 * n + 6)) (by omega) (by omega) ?_
        exact w_L_law_1665 n N xs hN hxs hd (fun x5 v => f_L_law_28 N xs  n x5 v) (fun x5 v => p_L_law_28 N xs   n x5 v) ih x5 v hp hQ
      have hQ := qn (P := gqIV Q) h229 hQ
      have hp := hp.2 h229
      by_cases h238 : ((xs x5.toNatClampNeg) &&& (63 : Int32)) = 26
      · have hQ := qp (P := gqIV Q) h238 hQ
        have hp := hp.1 h238
        refine g_tableIn 1721 dL_law_44 (by rw [h238]; decide) (by rw [h238]; decide) (by rw [h238]; rfl) (by decide) ?_
        refine g_room (k' := (322 * n + 1)) (n' := (2566 * n + 6)) (by omega) (by omega) ?_
        exact w_L_law_1721 n N xs hN hxs hd (fun x5 v => f_L_law_28 N xs  n x5 v) (fun x5 v => p_L_law_28 N xs   n x5 v) ih x5 v hp hQ
      have hQ := qn (P := gqIV Q) h238 hQ
      have hp := hp.2 h238
      by_cases h247 : ((xs x5.toNatClampNeg) &&& (63 : Int32)) = 27
      · have hQ := qp (P := gqIV Q) h247 hQ
        have hp := hp.1 h247
        refine g_tableIn 1777 dL_law_44 (by rw [h247]; decide) (by rw [h247]; decide) (by rw [h247]; rfl) (by decide) ?_
        refine g_room (k' := (322 * n + 2)) (n' := (2566 * n + 12)) (by omega) (by omega) ?_
        exact w_L_law_1777 n N xs hN hxs hd (fun x5 v => f_L_law_28 N xs  n x5 v) (fun x5 v => p_L_law_28 N xs   n x5 v) ih x5 v hp hQ
      have hQ := qn (P := gqIV Q) h247 hQ
      have hp := hp.2 h247
      by_cases h258 : ((xs x5.toNatClampNeg) &&& (63 : Int32)) = 28
      · have hQ := qp (P := gqIV Q) h258 hQ
        have hp := hp.1 h258
        refine g_tableIn 1845 dL_law_44 (by rw [h258]; decide) (by rw [h258]; decide) (by rw [h258]; rfl) (by decide) ?_
        refine g_room (k' := (322 * n + 1)) (n' := (2566 * n + 6)) (by omega) (by omega) ?_
        exact w_L_law_1845 n N xs hN hxs hd (fun x5 v => f_L_law_28 N xs  n x5 v) (fun x5 v => p_L_law_28 N xs   n x5 v) ih x5 v hp hQ
      have hQ := qn (P := gqIV Q) h258 hQ
      have hp := hp.2 h258
      by_cases h267 : ((xs x5.toNatClampNeg) &&& (63 : Int32)) = 29
      · have hQ := qp (P := gqIV Q) h267 hQ
        have hp := hp.1 h267
        refine g_tableIn 1901 dL_law_44 (by rw [h267]; decide) (by rw [h267]; decide) (by rw [h267]; rfl) (by decide) ?_
        refine g_room (k' := (322 * n + 1)) (n' := (2566 * n + 6)) (by omega) (by omega) ?_
        exact w_L_law_1901 n N xs hN hxs hd (fun x5 v => f_L_law_28 N xs  n x5 v) (fun x5 v => p_L_law_28 N xs   n x5 v) ih x5 v hp hQ
      have hQ := qn (P := gqIV Q) h267 hQ
      have hp := hp.2 h267
      by_cases h276 : ((xs x5.toNatClampNeg) &&& (63 : Int32)) = 30
      · have hQ := qp (P := gqIV Q) h276 hQ
        have hp := hp.1 h276
        refine g_tableIn 1957 dL_law_44 (by rw [h276]; decide) (by rw [h276]; decide) (by rw [h276]; rfl) (by decide) ?_
        refine g_room (k' := (322 * n + 0)) (n' := (2566 * n + 0)) (by omega) (by omega) ?_
        exact w_L_law_1957 n N xs hN hxs hd (fun x5 v => f_L_law_28 N xs  n x5 v) (fun x5 v => p_L_law_28 N xs   n x5 v) ih x5 v hp hQ
      have hQ := qn (P := gqIV Q) h276 hQ
      have hp := hp.2 h276
      by_cases h280 : ((xs x5.toNatClampNeg) &&& (63 : Int32)) = 31
      · have hQ := qp (P := gqIV Q) h280 hQ
        have hp := hp.1 h280
        refine g_tableIn 1970 dL_law_44 (by rw [h280]; decide) (by rw [h280]; decide) (by rw [h280]; rfl) (by decide) ?_
        refine g_room (k' := (322 * n + 1)) (n' := (2566 * n + 6)) (by omega) (by omega) ?_
        exact w_L_law_1970 n N xs hN hxs hd (fun x5 v => f_L_law_28 N xs  n x5 v) (fun x5 v => p_L_law_28 N xs   n x5 v) ih x5 v hp hQ
      have hQ := qn (P := gqIV Q) h280 hQ
      have hp := hp.2 h280
      by_cases h289 : ((xs x5.toNatClampNeg) &&& (63 : Int32)) = 32
      · have hQ := qp (P := gqIV Q) h289 hQ
        have hp := hp.1 h289
        refine g_tableIn 2026 dL_law_44 (by rw [h289]; decide) (by rw [h289]; decide) (by rw [h289]; rfl) (by decide) ?_
        refine g_room (k' := (322 * n + 1)) (n' := (2566 * n + 6)) (by omega) (by omega) ?_
        exact w_L_law_2026 n N xs hN hxs hd (fun x5 v => f_L_law_28 N xs  n x5 v) (fun x5 v => p_L_law_28 N xs   n x5 v) ih x5 v hp hQ
      have hQ := qn (P := gqIV Q) h289 hQ
      have hp := hp.2 h289
      by_cases h298 : ((xs x5.toNatClampNeg) &&& (63 : Int32)) = 33
      · have hQ := qp (P := gqIV Q) h298 hQ
        have hp := hp.1 h298
        refine g_tableIn 2082 dL_law_44 (by rw [h298]; decide) (by rw [h298]; decide) (by rw [h298]; rfl) (by decide) ?_
        refine g_room (k' := (322 * n + 1)) (n' := (2566 * n + 6)) (by omega) (by omega) ?_
        exact w_L_law_2082 n N xs hN hxs hd (fun x5 v => f_L_law_28 N xs  n x5 v) (fun x5 v => p_L_law_28 N xs   n x5 v) ih x5 v hp hQ
      have hQ := qn (P := gqIV Q) h298 hQ
      have hp := hp.2 h298
      by_cases h307 : ((xs x5.toNatClampNeg) &&& (63 : Int32)) = 34
      · have hQ := qp (P := gqIV Q) h307 hQ
        have hp := hp.1 h307
        refine g_tableIn 2138 dL_law_44 (by rw [h307]; decide) (by rw [h307]; decide) (by rw [h307]; rfl) (by decide) ?_
        refine g_room (k' := (322 * n + 1)) (n' := (2566 * n + 6)) (by omega) (by omega) ?_
        exact w_L_law_2138 n N xs hN hxs hd (fun x5 v => f_L_law_28 N xs  n x5 v) (fun x5 v => p_L_law_28 N xs   n x5 v) ih x5 v hp hQ
      have hQ := qn (P := gqIV Q) h307 hQ
      have hp := hp.2 h307
      by_cases h316 : ((xs x5.toNatClampNeg) &&& (63 : Int32)) = 35
      · have hQ := qp (P := gqIV Q) h316 hQ
        have hp := hp.1 h316
        refine g_tableIn 2194 dL_law_44 (by rw [h316]; decide) (by rw [h316]; decide) (by rw [h316]; rfl) (by decide) ?_
        refine g_room (k' := (322 * n + 0)) (n' := (2566 * n + 0)) (by omega) (by omega) ?_
        exact w_L_law_2194 n N xs hN hxs hd (fun x5 v => f_L_law_28 N xs  n x5 v) (fun x5 v => p_L_law_28 N xs   n x5 v) ih x5 v hp hQ
      have hQ := qn (P := gqIV Q) h316 hQ
      have hp := hp.2 h316
      by_cases h320 : ((xs x5.toNatClampNeg) &&& (63 : Int32)) = 36
      · have hQ := qp (P := gqIV Q) h320 hQ
        have hp := hp.1 h320
        refine g_tableIn 2208 dL_law_44 (by rw [h320]; decide) (by rw [h320]; decide) (by rw [h320]; rfl) (by decide) ?_
        refine g_room (k' := (322 * n + 1)) (n' := (2566 * n + 6)) (by omega) (by omega) ?_
        exact w_L_law_2208 n N xs hN hxs hd (fun x5 v => f_L_law_28 N xs  n x5 v) (fun x5 v => p_L_law_28 N xs   n x5 v) ih x5 v hp hQ
      have hQ := qn (P := gqIV Q) h320 hQ
      have hp := hp.2 h320
      by_cases h329 : ((xs x5.toNatClampNeg) &&& (63 : Int32)) = 37
      · have hQ := qp (P := gqIV Q) h329 hQ
        have hp := hp.1 h329
        refine g_tableIn 2263 dL_law_44 (by rw [h329]; decide) (by rw [h329]; decide) (by rw [h329]; rfl) (by decide) ?_
        refine g_room (k' := (322 * n + 1)) (n' := (2566 * n + 6)) (by omega) (by omega) ?_
        exact w_L_law_2263 n N xs hN hxs hd (fun x5 v => f_L_law_28 N xs  n x5 v) (fun x5 v => p_L_law_28 N xs   n x5 v) ih x5 v hp hQ
      have hQ := qn (P := gqIV Q) h329 hQ
      have hp := hp.2 h329
      by_cases h338 : ((xs x5.toNatClampNeg) &&& (63 : Int32)) = 38
      · have hQ := qp (P := gqIV Q) h338 hQ
        have hp := hp.1 h338
        refine g_tableIn 2318 dL_law_44 (by rw [h338]; decide) (by rw [h338]; decide) (by rw [h338]; rfl) (by decide) ?_
        refine g_room (k' := (322 * n + 0)) (n' := (2566 * n + 0)) (by omega) (by omega) ?_
        exact w_L_law_2318 n N xs hN hxs hd (fun x5 v => f_L_law_28 N xs  n x5 v) (fun x5 v => p_L_law_28 N xs   n x5 v) ih x5 v hp hQ
      have hQ := qn (P := gqIV Q) h338 hQ
      have hp := hp.2 h338
      by_cases h342 : ((xs x5.toNatClampNeg) &&& (63 : Int32)) = 39
      · have hQ := qp (P := gqIV Q) h342 hQ
        have hp := hp.1 h342
        refine g_tableIn 2331 dL_law_44 (by rw [h342]; decide) (by rw [h342]; decide) (by rw [h342]; rfl) (by decide) ?_
        refine g_room (k' := (322 * n + 2)) (n' := (2566 * n + 12)) (by omega) (by omega) ?_
        exact w_L_law_2331 n N xs hN hxs hd (fun x5 v => f_L_law_28 N xs  n x5 v) (fun x5 v => p_L_law_28 N xs   n x5 v) ih x5 v hp hQ
      have hQ := qn (P := gqIV Q) h342 hQ
      have hp := hp.2 h342
      by_cases h353 : ((xs x5.toNatClampNeg) &&& (63 : Int32)) = 40
      · have hQ := qp (P := gqIV Q) h353 hQ
        have hp := hp.1 h353
        refine g_tableIn 2399 dL_law_44 (by rw [h353]; decide) (by rw [h353]; decide) (by rw [h353]; rfl) (by decide) ?_
        refine g_room (k' := (322 * n + 0)) (n' := (2566 * n + 0)) (by omega) (by omega) ?_
        exact w_L_law_2399 n N xs hN hxs hd (fun x5 v => f_L_law_28 N xs  n x5 v) (fun x5 v => p_L_law_28 N xs   n x5 v) ih x5 v hp hQ
      have hQ := qn (P := gqIV Q) h353 hQ
      have hp := hp.2 h353
      by_cases h357 : ((xs x5.toNatClampNeg) &&& (63 : Int32)) = 41
      · have hQ := qp (P := gqIV Q) h357 hQ
        have hp := hp.1 h357
        refine g_tableIn 2412 dL_law_44 (by rw [h357]; decide) (by rw [h357]; decide) (by rw [h357]; rfl) (by decide) ?_
        refine g_room (k' := (322 * n + 1)) (n' := (2566 * n + 6)) (by omega) (by omega) ?_
        exact w_L_law_2412 n N xs hN hxs hd (fun x5 v => f_L_law_28 N xs  n x5 v) (fun x5 v => p_L_law_28 N xs   n x5 v) ih x5 v hp hQ
      have hQ := qn (P := gqIV Q) h357 hQ
      have hp := hp.2 h357
      by_cases h366 : ((xs x5.toNatClampNeg) &&& (63 : Int32)) = 42
      · have hQ := qp (P := gqIV Q) h366 hQ
        have hp := hp.1 h366
        refine g_tableIn 2468 dL_law_44 (by rw [h366]; decide) (by rw [h366]; decide) (by rw [h366]; rfl) (by decide) ?_
        refine g_room (k' := (322 * n + 1)) (n' := (2566 * n + 6)) (by omega) (by omega) ?_
        exact w_L_law_2468 n N xs hN hxs hd (fun x5 v => f_L_law_28 N xs  n x5 v) (fun x5 v => p_L_law_28 N xs   n x5 v) ih x5 v hp hQ
      have hQ := qn (P := gqIV Q) h366 hQ
      have hp := hp.2 h366
      by_cases h375 : ((xs x5.toNatClampNeg) &&& (63 : Int32)) = 43
      · have hQ := qp (P := gqIV Q) h375 hQ
        have hp := hp.1 h375
        refine g_tableIn 2524 dL_law_44 (by rw [h375]; decide) (by rw [h375]; decide) (by rw [h375]; rfl) (by decide) ?_
        refine g_room (k' := (322 * n + 0)) (n' := (2566 * n + 0)) (by omega) (by omega) ?_
        exact w_L_law_2524 n N xs hN hxs hd (fun x5 v => f_L_law_28 N xs  n x5 v) (fun x5 v => p_L_law_28 N xs   n x5 v) ih x5 v hp hQ
      have hQ := qn (P := gqIV Q) h375 hQ
      have hp := hp.2 h375
      by_cases h379 : ((xs x5.toNatClampNeg) &&& (63 : Int32)) = 44
      · have hQ := qp (P := gqIV Q) h379 hQ
        have hp := hp.1 h379
        refine g_tableIn 2537 dL_law_44 (by rw [h379]; decide) (by rw [h379]; decide) (by rw [h379]; rfl) (by decide) ?_
        refine g_room (k' := (322 * n + 0)) (n' := (2566 * n + 0)) (by omega) (by omega) ?_
        exact w_L_law_2537 n N xs hN hxs hd (fun x5 v => f_L_law_28 N xs  n x5 v) (fun x5 v => p_L_law_28 N xs   n x5 v) ih x5 v hp hQ
      have hQ := qn (P := gqIV Q) h379 hQ
      have hp := hp.2 h379
      by_cases h383 : ((xs x5.toNatClampNeg) &&& (63 : Int32)) = 45
      · have hQ := qp (P := gqIV Q) h383 hQ
        have hp := hp.1 h383
        refine g_tableIn 2550 dL_law_44 (by rw [h383]; decide) (by rw [h383]; decide) (by rw [h383]; rfl) (by decide) ?_
        refine g_room (k' := (322 * n + 3)) (n' := (2566 * n + 18)) (by omega) (by omega) ?_
        exact w_L_law_2550 n N xs hN hxs hd (fun x5 v => f_L_law_28 N xs  n x5 v) (fun x5 v => p_L_law_28 N xs   n x5 v) ih x5 v hp hQ
      have hQ := qn (P := gqIV Q) h383 hQ
      have hp := hp.2 h383
      by_cases h394 : ((xs x5.toNatClampNeg) &&& (63 : Int32)) = 46
      · have hQ := qp (P := gqIV Q) h394 hQ
        have hp := hp.1 h394
        refine g_tableIn 2618 dL_law_44 (by rw [h394]; decide) (by rw [h394]; decide) (by rw [h394]; rfl) (by decide) ?_
        refine g_room (k' := (322 * n + 3)) (n' := (2566 * n + 18)) (by omega) (by omega) ?_
        exact w_L_law_2618 n N xs hN hxs hd (fun x5 v => f_L_law_28 N xs  n x5 v) (fun x5 v => p_L_law_28 N xs   n x5 v) ih x5 v hp hQ
      have hQ := qn (P := gqIV Q) h394 hQ
      have hp := hp.2 h394
      by_cases h405 : ((xs x5.toNatClampNeg) &&& (63 : Int32)) = 47
      · have hQ := qp (P := gqIV Q) h405 hQ
        have hp := hp.1 h405
        refine g_tableIn 2686 dL_law_44 (by rw [h405]; decide) (by rw [h405]; decide) (by rw [h405]; rfl) (by decide) ?_
        refine g_room (k' := (322 * n + 1)) (n' := (2566 * n + 6)) (by omega) (by omega) ?_
        exact w_L_law_2686 n N xs hN hxs hd (fun x5 v => f_L_law_28 N xs  n x5 v) (fun x5 v => p_L_law_28 N xs   n x5 v) ih x5 v hp hQ
      have hQ := qn (P := gqIV Q) h405 hQ
      have hp := hp.2 h405
      by_cases h414 : ((xs x5.toNatClampNeg) &&& (63 : Int32)) = 48
      · have hQ := qp (P := gqIV Q) h414 hQ
        have hp := hp.1 h414
        refine g_tableIn 2742 dL_law_44 (by rw [h414]; decide) (by rw [h414]; decide) (by rw [h414]; rfl) (by decide) ?_
        refine g_room (k' := (322 * n + 1)) (n' := (2566 * n + 6)) (by omega) (by omega) ?_
        exact w_L_law_2742 n N xs hN hxs hd (fun x5 v => f_L_law_28 N xs  n x5 v) (fun x5 v => p_L_law_28 N xs   n x5 v) ih x5 v hp hQ
      have hQ := qn (P := gqIV Q) h414 hQ
      have hp := hp.2 h414
      by_cases h423 : ((xs x5.toNatClampNeg) &&& (63 : Int32)) = 49
      · have hQ := qp (P := gqIV Q) h423 hQ
        have hp := hp.1 h423
        refine g_tableIn 2798 dL_law_44 (by rw [h423]; decide) (by rw [h423]; decide) (by rw [h423]; rfl) (by decide) ?_
        refine g_room (k' := (322 * n + 1)) (n' := (2566 * n + 6)) (by omega) (by omega) ?_
        exact w_L_law_2798 n N xs hN hxs hd (fun x5 v => f_L_law_28 N xs  n x5 v) (fun x5 v => p_L_law_28 N xs   n x5 v) ih x5 v hp hQ
      have hQ := qn (P := gqIV Q) h423 hQ
      have hp := hp.2 h423
      by_cases h432 : ((xs x5.toNatClampNeg) &&& (63 : Int32)) = 50
      · have hQ := qp (P := gqIV Q) h432 hQ
        have hp := hp.1 h432
        refine g_tableIn 2863 dL_law_44 (by rw [h432]; decide) (by rw [h432]; decide) (by rw [h432]; rfl) (by decide) ?_
        refine g_room (k' := (322 * n + 1)) (n' := (2566 * n + 6)) (by omega) (by omega) ?_
        exact w_L_law_2863 n N xs hN hxs hd (fun x5 v => f_L_law_28 N xs  n x5 v) (fun x5 v => p_L_law_28 N xs   n x5 v) ih x5 v hp hQ
      have hQ := qn (P := gqIV Q) h432 hQ
      have hp := hp.2 h432
      by_cases h442 : ((xs x5.toNatClampNeg) &&& (63 : Int32)) = 51
      · have hQ := qp (P := gqIV Q) h442 hQ
        have hp := hp.1 h442
        refine g_tableIn 2929 dL_law_44 (by rw [h442]; decide) (by rw [h442]; decide) (by rw [h442]; rfl) (by decide) ?_
        refine g_room (k' := (322 * n + 0)) (n' := (2566 * n + 0)) (by omega) (by omega) ?_
        exact w_L_law_2929 n N xs hN hxs hd (fun x5 v => f_L_law_28 N xs  n x5 v) (fun x5 v => p_L_law_28 N xs   n x5 v) ih x5 v hp hQ
      have hQ := qn (P := gqIV Q) h442 hQ
      have hp := hp.2 h442
      by_cases h446 : ((xs x5.toNatClampNeg) &&& (63 : Int32)) = 52
      · have hQ := qp (P := gqIV Q) h446 hQ
        have hp := hp.1 h446
        refine g_tableIn 2942 dL_law_44 (by rw [h446]; decide) (by rw [h446]; decide) (by rw [h446]; rfl) (by decide) ?_
        refine g_room (k' := (322 * n + 11)) (n' := (2566 * n + 2566)) (by omega) (by omega) ?_
        exact w_L_law_2942 n N xs hN hxs hd (fun x5 v => f_L_law_28 N xs  n x5 v) (fun x5 v => p_L_law_28 N xs   n x5 v) ih x5 v hp hQ
      have hQ := qn (P := gqIV Q) h446 hQ
      have hp := hp.2 h446
      by_cases h455 : ((xs x5.toNatClampNeg) &&& (63 : Int32)) = 53
      · have hQ := qp (P := gqIV Q) h455 hQ
        have hp := hp.1 h455
        refine g_tableIn 2998 dL_law_44 (by rw [h455]; decide) (by rw [h455]; decide) (by rw [h455]; rfl) (by decide) ?_
        refine g_room (k' := (322 * n + 9)) (n' := (2566 * n + 2054)) (by omega) (by omega) ?_
        exact w_L_law_2998 n N xs hN hxs hd (fun x5 v => f_L_law_28 N xs  n x5 v) (fun x5 v => p_L_law_28 N xs   n x5 v) ih x5 v hp hQ
      have hQ := qn (P := gqIV Q) h455 hQ
      have hp := hp.2 h455
      by_cases h464 : ((xs x5.toNatClampNeg) &&& (63 : Int32)) = 54
      · have hQ := qp (P := gqIV Q) h464 hQ
        have hp := hp.1 h464
        refine g_tableIn 3054 dL_law_44 (by rw [h464]; decide) (by rw [h464]; decide) (by rw [h464]; rfl) (by decide) ?_
        refine g_room (k' := (322 * n + 1)) (n' := (2566 * n + 6)) (by omega) (by omega) ?_
        exact w_L_law_3054 n N xs hN hxs hd (fun x5 v => f_L_law_28 N xs  n x5 v) (fun x5 v => p_L_law_28 N xs   n x5 v) ih x5 v hp hQ
      have hQ := qn (P := gqIV Q) h464 hQ
      have hp := hp.2 h464
      by_cases h473 : ((xs x5.toNatClampNeg) &&& (63 : Int32)) = 55
      · have hQ := qp (P := gqIV Q) h473 hQ
        have hp := hp.1 h473
        refine g_tableIn 3110 dL_law_44 (by rw [h473]; decide) (by rw [h473]; decide) (by rw [h473]; rfl) (by decide) ?_
        refine g_room (k' := (322 * n + 2)) (n' := (2566 * n + 262)) (by omega) (by omega) ?_
        exact w_L_law_3110 n N xs hN hxs hd (fun x5 v => f_L_law_28 N xs  n x5 v) (fun x5 v => p_L_law_28 N xs   n x5 v) ih x5 v hp hQ
      have hQ := qn (P := gqIV Q) h473 hQ
      have hp := hp.2 h473
      by_cases h482 : ((xs x5.toNatClampNeg) &&& (63 : Int32)) = 56
      · have hQ := qp (P := gqIV Q) h482 hQ
        have hp := hp.1 h482
        refine g_tableIn 3168 dL_law_44 (by rw [h482]; decide) (by rw [h482]; decide) (by rw [h482]; rfl) (by decide) ?_
        refine g_room (k' := (322 * n + 322)) (n' := (2566 * n + 2182)) (by omega) (by omega) ?_
        exact w_L_law_3168 n N xs hN hxs hd (fun x5 v => f_L_law_28 N xs  n x5 v) (fun x5 v => p_L_law_28 N xs   n x5 v) ih x5 v hp hQ
      have hQ := qn (P := gqIV Q) h482 hQ
      have hp := hp.2 h482
      by_cases h489 : ((xs x5.toNatClampNeg) &&& (63 : Int32)) = 57
      · have hQ := qp (P := gqIV Q) h489 hQ
        have hp := hp.1 h489
        refine g_tableIn 3212 dL_law_44 (by rw [h489]; decide) (by rw [h489]; decide) (by rw [h489]; rfl) (by decide) ?_
        refine g_room (k' := (322 * n + 1)) (n' := (2566 * n + 6)) (by omega) (by omega) ?_
        exact w_L_law_3212 n N xs hN hxs hd (fun x5 v => f_L_law_28 N xs  n x5 v) (fun x5 v => p_L_law_28 N xs   n x5 v) ih x5 v hp hQ
      have hQ := qn (P := gqIV Q) h489 hQ
      have hp := hp.2 h489
      by_cases h496 : ((xs x5.toNatClampNeg) &&& (63 : Int32)) = 58
      · have hQ := qp (P := gqIV Q) h496 hQ
        have hp := hp.1 h496
        refine g_tableIn 3256 dL_law_44 (by rw [h496]; decide) (by rw [h496]; decide) (by rw [h496]; rfl) (by decide) ?_
        refine g_room (k' := (322 * n + 1)) (n' := (2566 * n + 6)) (by omega) (by omega) ?_
        exact w_L_law_3256 n N xs hN hxs hd (fun x5 v => f_L_law_28 N xs  n x5 v) (fun x5 v => p_L_law_28 N xs   n x5 v) ih x5 v hp hQ
      have hQ := qn (P := gqIV Q) h496 hQ
      have hp := hp.2 h496
      by_cases h503 : ((xs x5.toNatClampNeg) &&& (63 : Int32)) = 59
      · have hQ := qp (P := gqIV Q) h503 hQ
        have hp := hp.1 h503
        refine g_tableIn 3300 dL_law_44 (by rw [h503]; decide) (by rw [h503]; decide) (by rw [h503]; rfl) (by decide) ?_
        refine g_room (k' := (322 * n + 1)) (n' := (2566 * n + 6)) (by omega) (by omega) ?_
        exact w_L_law_3300 n N xs hN hxs hd (fun x5 v => f_L_law_28 N xs  n x5 v) (fun x5 v => p_L_law_28 N xs   n x5 v) ih x5 v hp hQ
      have hQ := qn (P := gqIV Q) h503 hQ
      have hp := hp.2 h503
      by_cases h510 : ((xs x5.toNatClampNeg) &&& (63 : Int32)) = 60
      · have hQ := qp (P := gqIV Q) h510 hQ
        have hp := hp.1 h510
        refine g_tableIn 3344 dL_law_44 (by rw [h510]; decide) (by rw [h510]; decide) (by rw [h510]; rfl) (by decide) ?_
        refine g_room (k' := (322 * n + 0)) (n' := (2566 * n + 0)) (by omega) (by omega) ?_
        exact w_L_law_3344 n N xs hN hxs hd (fun x5 v => f_L_law_28 N xs  n x5 v) (fun x5 v => p_L_law_28 N xs   n x5 v) ih x5 v hp hQ
      have hQ := qn (P := gqIV Q) h510 hQ
      have hp := hp.2 h510
      by_cases h514 : ((xs x5.toNatClampNeg) &&& (63 : Int32)) = 61
      · have hQ := qp (P := gqIV Q) h514 hQ
        have hp := hp.1 h514
        refine g_tableIn 3357 dL_law_44 (by rw [h514]; decide) (by rw [h514]; decide) (by rw [h514]; rfl) (by decide) ?_
        refine g_room (k' := (322 * n + 1)) (n' := (2566 * n + 6)) (by omega) (by omega) ?_
        exact w_L_law_3357 n N xs hN hxs hd (fun x5 v => f_L_law_28 N xs  n x5 v) (fun x5 v => p_L_law_28 N xs   n x5 v) ih x5 v hp hQ
      have hQ := qn (P := gqIV Q) h514 hQ
      have hp := hp.2 h514
      refine g_tableOut 3401 dL_law_44 (gsw_out [0, 1, 2, 3, 4, 5, 6, 7, 8, 9, 10, 11, 12, 13, 14, 15, 16, 17, 18, 19, 20, 21, 22, 23, 24, 25, 26, 27, 28, 29, 30, 31, 32, 33, 34, 35, 36, 37, 38, 39, 40, 41, 42, 43, 44, 45, 46, 47, 48, 49, 50, 51, 52, 53, 54, 55, 56, 57, 58, 59, 60, 61] ((xs x5.toNatClampNeg) &&& (63 : Int32)) (by decide) ⟨h3, h16, h25, h40, h49, h62, h73, h82, h91, h104, h113, h122, h126, h130, h134, h143, h152, h161, h170, h179, h188, h198, h202, h211, h220, h229, h238, h247, h258, h267, h276, h280, h289, h298, h307, h316, h320, h329, h338, h342, h353, h357, h366, h375, h379, h383, h394, h405, h414, h423, h432, h442, h446, h455, h464, h473, h482, h489, h496, h503, h510, h514, trivial⟩) (by decide) ?_
      refine g_room (k' := (322 * n + 0)) (n' := (2566 * n + 0)) (by omega) (by omega) ?_
      exact w_L_law_3401 n N xs hN hxs hd (fun x5 v => f_L_law_28 N xs  n x5 v) (fun x5 v => p_L_law_28 N xs   n x5 v) ih x5 v hp hQ
