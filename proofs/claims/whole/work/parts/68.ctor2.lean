/-! constructors, 2: the script, the object itself, the reference; the law up to its loop -/
section CTOR2
variable {E : gE} {μ : gMd} {d : Nat} {Q : gO → gS → Prop} {k n : Nat} {σ σ' : gS} {pc : Nat} {lv : List (Nat × Value)} {rest : List Value}
set_option maxHeartbeats 2000000 in
theorem i_X7 (R : Nat → Nat → Bool) (M : Nat → Nat → Int32) (L : Nat → Nat → Int64) (F : Nat → UInt64) (hR : ∀ a k, 554 ≤ a → R a k = false) (hM : ∀ a, 554 ≤ a → M a = fun _ => 0) (hL : ∀ a, 554 ≤ a → L a = fun _ => 0) (hd : 4 ≤ d) : CT E m_X7_init d 3 24 [.ref (gX E + 553)] (554, R, M, L, F) (Cs (.inl none) (557, uR R 553 4, M, L, F)) := by
  refine CT.of ok_X7_init rfl (Nat.le_of_ble_eq_true rfl) ?_
  refine g_aload_n 0 dX7_init_0 rfl ?_
  refine g_oinit oi_X7_3 rfl (by omega) (Nat.le_of_ble_eq_true rfl) dX7_init_1 ?_
  refine g_aload_n 0 dX7_init_4 rfl ?_
  refine g_newB nw_X7_9 rfl (Or.inl rfl) (fun k => hR 554 k (by omega)) (hM 554 (by omega)) (by omega) (by omega) dX7_init_5 ?_
  refine g_dup dX7_init_8 rfl ?_
  refine g_callI (rest := [.ref (gX E + 554), .ref (gX E + 553)]) s_X7_11 rfl rfl (i_J4 (d := d - 1) (j := 554) (Or.inl rfl) R M L F (hM 554 (by omega)) (by omega)) csn rfl rfl (Nat.le_of_ble_eq_true rfl) (show d - 1 + 1 ≤ d by omega) (by omega) (by omega) dX7_init_9 (adS ?_)
  refine g_putR (cf := 1) pf_X7_12_X7 rfl (by decide : kd 553 = (0, 5)) rfl (by decide) rfl (show 553 < 556 by decide) rfl rfl rfl dX7_init_12 ?_
  refine g_aload_n 0 dX7_init_15 rfl ?_
  refine g_iconst dX7_init_16 (4 : Int32) (by decide) ?_
  refine g_newi (N := 4) rfl (by decide) (by decide : kd 556 = (1, 4)) (hM 556 (by omega)) (show 556 < 572 by decide) (by omega) (by omega) ai_ dX7_init_17 ?_
  refine g_putR (cf := 3) pf_X7_18_X7 rfl (by decide : kd 553 = (0, 5)) rfl (by decide) rfl (show 553 < 557 by decide) rfl rfl rfl dX7_init_19 ?_
  refine g_bits (R' := uR R 553 4) (bits_done (n := 557) (by decide : kd 553 = (0, 5)) rfl (fun i h1 h2 => ?_) (fun i k h => by
    simp only [gR, setR, sN, uprR, uR]
    repeat' split
    all_goals first | rfl | omega) (fun k hk c0 c1 => by
      have h := (by decide +kernel : ∀ k, k < nf 5 → fcode 5 k ≠ 0 → fcode 5 k ≠ 1000 → k ∈ ([0, 1] : List Nat)) k hk c0 c1
      simp only [List.mem_cons, List.not_mem_nil, or_false] at h
      rcases h with rfl | rfl <;> simp [gR, setR, sN, uprR, uR])) (g_vret rfl dX7_init_22 ⟨rfl, rfl⟩)
  have h3 : i = 554 ∨ i = 555 ∨ i = 556 := by omega
  rcases h3 with rfl | rfl | rfl
  · refine ⟨fun h0 k hk c0 c1 c2 => ?_, fun h5 => absurd h5 (by decide)⟩
    have h := (by decide : ∀ k, k < nf 10 → fcode 10 k ≠ 0 → fcode 10 k ≠ 1002 → k = 0) k hk c0 c2
    subst h
    simp [gR, setR, sN, uprR]
  · exact hmid_arr (by decide)
  · exact hmid_arr (by decide)
/-- numbers that the object begins with -/
def mI (M : Nat → Nat → Int32) (j p q : Nat) : Nat → Nat → Int32 := upr (upr M j (upd (M j) p (-1))) j (upd (upr M j (upd (M j) p (-1)) j) q (-1))
theorem f1000 {ci : Nat} (h : ci = 8 ∨ ci = 9) : ∀ k, fcode ci k ≠ 1000 := by
  intro q
  by_cases hq : q < 21
  · rcases h with rfl | rfl
    · exact (by decide +kernel : ∀ q, q < 21 → fcode 8 q ≠ 1000) q hq
    · exact (by decide +kernel : ∀ q, q < 21 → fcode 9 q ≠ 1000) q hq
  · have e : fcode ci q = 0 := by
      unfold fcode
      rw [List.getD_eq_getElem?_getD, List.getElem?_eq_none]
      · rfl
      · rcases h with rfl | rfl
        · show 8 ≤ q
          omega
        · show 21 ≤ q
          omega
    rw [e]
    decide
set_option maxHeartbeats 4000000 in
theorem i_X11 (R : Nat → Nat → Bool) (M : Nat → Nat → Int32) (L : Nat → Nat → Int64) (F : Nat → UInt64) (hR : ∀ a k, 1 ≤ a → R a k = false) (hM : ∀ a, 1 ≤ a → M a = fun _ => 0) (hL : ∀ a, 1 ≤ a → L a = fun _ => 0) (hM0 : M 0 = fun _ => 0) (hd : 6 ≤ d) : CT E m_X11_init d 558 7353 [.ref (gX E + 0)] (1, R, M, L, F) (Cs (.inl none) (559, uR R 0 559, mI M 0 6 7, L, F)) := by
  refine CT.of ok_X11_init rfl (Nat.le_of_ble_eq_true rfl) ?_
  refine g_aload_n 0 dX11_init_0 rfl ?_
  refine g_oinit oi_X11_1 rfl (by omega) (Nat.le_of_ble_eq_true rfl) dX11_init_1 ?_
  refine g_aload_n 0 dX11_init_4 rfl ?_
  have g1 : ∀ a k, 1 ≤ a → (R) a k = false := up_hi hR (by omega)
  refine g_newN 12 rfl nw_X11_7 rfl (by decide : kd 1 = (0, 0)) (show 1 < 572 by decide) (fun k => g1 _ k (Nat.le_refl _)) (hM 1 (by omega)) (f1002 (by decide)) (by omega) (show 12 ≤ _ by omega) dX11_init_5 ?_
  refine g_dup dX11_init_8 rfl ?_
  refine g_callJ (rest := [.ref (gX E + 1), .ref (gX E + 0)]) s_X11_9 rfl rfl (i_X1 (d := d - 1) isBk_1 (R) M L F (up_hi g1 (by omega)) (fun a h => hM a (by omega)) (fun a h => hL a (by omega)) (by omega)) csn rfl rfl (Nat.le_of_ble_eq_true rfl) (show d - 1 + 1 ≤ d by omega) (show 49 ≤ _ by omega) (show 651 ≤ _ by omega) dX11_init_9 (adS ?_)
  refine g_putR (cf := 1) pf_X11_10_X11 rfl (by decide : kd 0 = (0, 8)) rfl (by decide) rfl (show 0 < 51 by decide) rfl rfl rfl dX11_init_12 ?_
  have k1 : ∀ a k, 51 ≤ a → (uprR (uR (R) 1 50) 0 0) a k = false := upr_hi (uR_hi (up_hi g1 (by omega)) (by omega)) (by omega)
  refine g_aload_n 0 dX11_init_15 rfl ?_
  have g51 : ∀ a k, 51 ≤ a → (uprR (uR (R) 1 50) 0 0) a k = false := up_hi k1 (by omega)
  refine g_newN 12 rfl nw_X11_7 rfl (by decide : kd 51 = (0, 0)) (show 51 < 572 by decide) (fun k => g51 _ k (Nat.le_refl _)) (hM 51 (by omega)) (f1002 (by decide)) (by omega) (show 12 ≤ _ by omega) dX11_init_16 ?_
  refine g_dup dX11_init_19 rfl ?_
  refine g_callJ (rest := [.ref (gX E + 51), .ref (gX E + 0)]) s_X11_9 rfl rfl (i_X1 (d := d - 1) isBk_51 (uprR (uR (R) 1 50) 0 0) M L F (up_hi g51 (by omega)) (fun a h => hM a (by omega)) (fun a h => hL a (by omega)) (by omega)) csn rfl rfl (Nat.le_of_ble_eq_true rfl) (show d - 1 + 1 ≤ d by omega) (show 49 ≤ _ by omega) (show 651 ≤ _ by omega) dX11_init_20 (adS ?_)
  refine g_putR (cf := 51) pf_X11_16_X11 rfl (by decide : kd 0 = (0, 8)) rfl (by decide) rfl (show 0 < 101 by decide) rfl rfl rfl dX11_init_23 ?_
  have k51 : ∀ a k, 101 ≤ a → (uprR (uR (uprR (uR (R) 1 50) 0 0) 51 50) 0 1) a k = false := upr_hi (uR_hi (up_hi g51 (by omega)) (by omega)) (by omega)
  refine g_aload_n 0 dX11_init_26 rfl ?_
  have g101 : ∀ a k, 101 ≤ a → (uprR (uR (uprR (uR (R) 1 50) 0 0) 51 50) 0 1) a k = false := up_hi k51 (by omega)
  refine g_newN 3 rfl nw_X11_19 rfl (by decide : kd 101 = (0, 2)) (show 101 < 572 by decide) (fun k => g101 _ k (Nat.le_refl _)) (hM 101 (by omega)) (f1002 (by decide)) (by omega) (show 3 ≤ _ by omega) dX11_init_27 ?_
  refine g_dup dX11_init_30 rfl ?_
  refine g_callI (rest := [.ref (gX E + 101), .ref (gX E + 0)]) s_X11_21 rfl rfl (i_X3 (d := d - 1) (uprR (uR (uprR (uR (R) 1 50) 0 0) 51 50) 0 1) M L F (up_hi g101 (by omega)) (fun a h => hM a (by omega)) (fun a h => hL a (by omega)) (by omega)) csn rfl rfl (Nat.le_of_ble_eq_true rfl) (show d - 1 + 1 ≤ d by omega) (show 451 ≤ _ by omega) (show 5976 ≤ _ by omega) dX11_init_31 (adS ?_)
  refine g_putR (cf := 101) pf_X11_22_X11 rfl (by decide : kd 0 = (0, 8)) rfl (by decide) rfl (show 0 < 553 by decide) rfl rfl rfl dX11_init_34 ?_
  have k101 : ∀ a k, 553 ≤ a → (uprR (uR (uprR (uR (uprR (uR (R) 1 50) 0 0) 51 50) 0 1) 101 452) 0 2) a k = false := upr_hi (uR_hi (up_hi g101 (by omega)) (by omega)) (by omega)
  refine g_aload_n 0 dX11_init_37 rfl ?_
  have g553 : ∀ a k, 553 ≤ a → (uprR (uR (uprR (uR (uprR (uR (R) 1 50) 0 0) 51 50) 0 1) 101 452) 0 2) a k = false := up_hi k101 (by omega)
  refine g_newN 4 rfl nw_X11_26 rfl (by decide : kd 553 = (0, 5)) (show 553 < 572 by decide) (fun k => g553 _ k (Nat.le_refl _)) (hM 553 (by omega)) (f1002 (by decide)) (by omega) (show 4 ≤ _ by omega) dX11_init_38 ?_
  refine g_dup dX11_init_41 rfl ?_
  refine g_callJ (rest := [.ref (gX E + 553), .ref (gX E + 0)]) s_X11_28 rfl rfl (i_X7 (d := d - 1) (uprR (uR (uprR (uR (uprR (uR (R) 1 50) 0 0) 51 50) 0 1) 101 452) 0 2) M L F (up_hi g553 (by omega)) (fun a h => hM a (by omega)) (fun a h => hL a (by omega)) (by omega)) csn rfl rfl (Nat.le_of_ble_eq_true rfl) (show d - 1 + 1 ≤ d by omega) (show 3 ≤ _ by omega) (show 24 ≤ _ by omega) dX11_init_42 (adS ?_)
  refine g_putR (cf := 553) pf_X11_29_X11 rfl (by decide : kd 0 = (0, 8)) rfl (by decide) rfl (show 0 < 557 by decide) rfl rfl rfl dX11_init_45 ?_
  have k553 : ∀ a k, 557 ≤ a → (uprR (uR (uprR (uR (uprR (uR (uprR (uR (R) 1 50) 0 0) 51 50) 0 1) 101 452) 0 2) 553 4) 0 3) a k = false := upr_hi (uR_hi (up_hi g553 (by omega)) (by omega)) (by omega)
  refine g_aload_n 0 dX11_init_48 rfl ?_
  have g557 : ∀ a k, 557 ≤ a → (uprR (uR (uprR (uR (uprR (uR (uprR (uR (R) 1 50) 0 0) 51 50) 0 1) 101 452) 0 2) 553 4) 0 3) a k = false := up_hi k553 (by omega)
  refine g_newB nw_X11_33 rfl (Or.inr rfl) (fun k => g557 _ k (Nat.le_refl _)) (hM 557 (by omega)) (by omega) (by omega) dX11_init_49 ?_
  refine g_dup dX11_init_52 rfl ?_
  refine g_callI (rest := [.ref (gX E + 557), .ref (gX E + 0)]) s_X11_35 rfl rfl (i_J4 (d := d - 1) (j := 557) (Or.inr rfl) (uprR (uR (uprR (uR (uprR (uR (uprR (uR (R) 1 50) 0 0) 51 50) 0 1) 101 452) 0 2) 553 4) 0 3) M L F (hM 557 (by omega)) (by omega)) csn rfl rfl (Nat.le_of_ble_eq_true rfl) (show d - 1 + 1 ≤ d by omega) (show 1 ≤ _ by omega) (show 16 ≤ _ by omega) dX11_init_53 (adS ?_)
  refine g_putR (cf := 557) pf_X11_36_X11 rfl (by decide : kd 0 = (0, 8)) rfl (by decide) rfl (show 0 < 559 by decide) rfl rfl rfl dX11_init_56 ?_
  have k557 : ∀ a k, 559 ≤ a → (uprR (uprR (uprR (uR (uprR (uR (uprR (uR (uprR (uR (R) 1 50) 0 0) 51 50) 0 1) 101 452) 0 2) 553 4) 0 3) 557 0) 0 4) a k = false := upr_hi (upr_hi (up_hi g557 (by omega)) (by omega)) (by omega)
  refine g_aload_n 0 dX11_init_59 rfl ?_
  refine g_iconst dX11_init_60 (0 : Int32) (by decide) ?_
  refine g_puts pf_X11_40_X11 rfl (by decide : kd 0 = (0, 8)) (show 0 < 559 by decide) (fun τ => by show Value.int (M 0 5) = .int 0; rw [hM0]) rfl rfl dX11_init_61 ?_
  refine g_aload_n 0 dX11_init_64 rfl ?_
  refine g_iconst dX11_init_65 (-1 : Int32) (by decide) ?_
  refine g_put (kf := 6) pf_X11_44_X11 rfl (by decide : kd 0 = (0, 8)) (by decide) rfl (fun k h => absurd h (f1000 (by decide) k)) (show 0 < 559 by decide) rfl rfl dX11_init_66 ?_
  refine g_aload_n 0 dX11_init_69 rfl ?_
  refine g_iconst dX11_init_70 (-1 : Int32) (by decide) ?_
  refine g_put (kf := 7) pf_X11_48_X11 rfl (by decide : kd 0 = (0, 8)) (by decide) rfl (fun k h => absurd h (f1000 (by decide) k)) (show 0 < 559 by decide) rfl rfl dX11_init_71 ?_
  refine g_bits (R' := uR R 0 559) (bits_done (n := 559) (by decide : kd 0 = (0, 8)) rfl (fun i h1 h2 => ?_) (fun i k h => absurd h (Nat.not_lt_zero i)) (fun k hk c0 c1 => by
      have h := (by decide +kernel : ∀ k, k < nf 8 → fcode 8 k ≠ 0 → fcode 8 k ≠ 1000 → k ∈ ([0, 1, 2, 3, 4] : List Nat)) k hk c0 c1
      simp only [List.mem_cons, List.not_mem_nil, or_false] at h
      rcases h with rfl | rfl | rfl | rfl | rfl <;> simp [gR, setR, sN, uprR, uR])) (g_vret rfl dX11_init_74 ⟨rfl, rfl⟩)
  by_cases h557 : i = 557
  · subst h557
    refine ⟨fun h0 k hk c0 c1 c2 => ?_, fun h5 => absurd h5 (by decide)⟩
    have h := (by decide : ∀ k, k < nf 10 → fcode 10 k ≠ 0 → fcode 10 k ≠ 1002 → k = 0) k hk c0 c2
    subst h
    simp [gR, setR, setM, sN, uprR]
  · by_cases h558 : i = 558
    · subst h558
      exact hmid_arr (by decide)
    · refine hmid_true (fun k => ?_)
      simp only [gR, setR, setM, sN, uprR, uR]
      repeat' split
      all_goals first | rfl | omega
theorem mI_n {M : Nat → Nat → Int32} {j p q a : Nat} (h : a ≠ j) : mI M j p q a = M a := by
  unfold mI
  rw [upr_n h, upr_n h]
theorem mI_s {M : Nat → Nat → Int32} {j p q k : Nat} (hp : k ≠ p) (hq : k ≠ q) : mI M j p q j k = M j k := by
  unfold mI
  rw [upr_s, pk_un hq, upr_s, pk_un hp]
set_option maxHeartbeats 4000000 in
theorem i_X12 (R : Nat → Nat → Bool) (M : Nat → Nat → Int32) (L : Nat → Nat → Int64) (F : Nat → UInt64) (hM : ∀ a, 560 ≤ a → M a = fun _ => 0) (hM559 : M 559 = fun _ => 0) (hd : 2 ≤ d) : CT E m_X12_init d 10 3608 [.ref (gX E + 559)] (560, R, M, L, F) (Cs (.inl none) (570, uR R 559 11, mI M 559 8 9, L, F)) := by
  refine CT.of ok_X12_init rfl (Nat.le_of_ble_eq_true rfl) ?_
  refine g_aload_n 0 dX12_init_0 rfl ?_
  refine g_oinit oi_X12_1 rfl (by omega) (Nat.le_of_ble_eq_true rfl) dX12_init_1 ?_
  refine g_aload_n 0 dX12_init_4 rfl ?_
  refine g_sipush dX12_init_5 (300 : Int32) (by decide) ?_
  refine g_newi (N := 300) rfl (by decide) (by decide : kd 560 = (1, 300)) (hM 560 (by omega)) (show 560 < 572 by decide) (by omega) (by omega) ai_ dX12_init_8 ?_
  refine g_putR (cf := 1) pf_X12_7_X12 rfl (by decide : kd 559 = (0, 9)) rfl (by decide) rfl (show 559 < 561 by decide) rfl rfl rfl dX12_init_10 ?_
  refine g_aload_n 0 dX12_init_13 rfl ?_
  refine g_sipush dX12_init_14 (300 : Int32) (by decide) ?_
  refine g_newi (N := 300) rfl (by decide) (by decide : kd 561 = (1, 300)) (hM 561 (by omega)) (show 561 < 572 by decide) (by omega) (by omega) ai_ dX12_init_17 ?_
  refine g_putR (cf := 2) pf_X12_13_X12 rfl (by decide : kd 559 = (0, 9)) rfl (by decide) rfl (show 559 < 562 by decide) rfl rfl rfl dX12_init_19 ?_
  refine g_aload_n 0 dX12_init_22 rfl ?_
  refine g_sipush dX12_init_23 (300 : Int32) (by decide) ?_
  refine g_newi (N := 300) rfl (by decide) (by decide : kd 562 = (1, 300)) (hM 562 (by omega)) (show 562 < 572 by decide) (by omega) (by omega) ai_ dX12_init_26 ?_
  refine g_putR (cf := 3) pf_X12_16_X12 rfl (by decide : kd 559 = (0, 9)) rfl (by decide) rfl (show 559 < 563 by decide) rfl rfl rfl dX12_init_28 ?_
  refine g_aload_n 0 dX12_init_31 rfl ?_
  refine g_sipush dX12_init_32 (2400 : Int32) (by decide) ?_
  refine g_newi (N := 2400) rfl (by decide) (by decide : kd 563 = (1, 2400)) (hM 563 (by omega)) (show 563 < 572 by decide) (by omega) (by omega) ai_ dX12_init_35 ?_
  refine g_putR (cf := 4) pf_X12_19_X12 rfl (by decide : kd 559 = (0, 9)) rfl (by decide) rfl (show 559 < 564 by decide) rfl rfl rfl dX12_init_37 ?_
  refine g_aload_n 0 dX12_init_40 rfl ?_
  refine g_iconst dX12_init_41 (4 : Int32) (by decide) ?_
  refine g_newi (N := 4) rfl (by decide) (by decide : kd 564 = (1, 4)) (hM 564 (by omega)) (show 564 < 572 by decide) (by omega) (by omega) ai_ dX12_init_42 ?_
  refine g_putR (cf := 5) pf_X12_22_X12 rfl (by decide : kd 559 = (0, 9)) rfl (by decide) rfl (show 559 < 565 by decide) rfl rfl rfl dX12_init_44 ?_
  refine g_aload_n 0 dX12_init_47 rfl ?_
  refine g_iconst dX12_init_48 (4 : Int32) (by decide) ?_
  refine g_newi (N := 4) rfl (by decide) (by decide : kd 565 = (1, 4)) (hM 565 (by omega)) (show 565 < 572 by decide) (by omega) (by omega) ai_ dX12_init_49 ?_
  refine g_putR (cf := 6) pf_X12_25_X12 rfl (by decide : kd 559 = (0, 9)) rfl (by decide) rfl (show 559 < 566 by decide) rfl rfl rfl dX12_init_51 ?_
  refine g_aload_n 0 dX12_init_54 rfl ?_
  refine g_iconst dX12_init_55 (0 : Int32) (by decide) ?_
  refine g_puts pf_X12_28_X12 rfl (by decide : kd 559 = (0, 9)) (show 559 < 566 by decide) (fun τ => by show Value.int (M 559 6) = .int 0; rw [hM559]) rfl rfl dX12_init_56 ?_
  refine g_aload_n 0 dX12_init_59 rfl ?_
  refine g_iconst dX12_init_60 (0 : Int32) (by decide) ?_
  refine g_puts pf_X12_32_X12 rfl (by decide : kd 559 = (0, 9)) (show 559 < 566 by decide) (fun τ => by show Value.int (M 559 7) = .int 0; rw [hM559]) rfl rfl dX12_init_61 ?_
  refine g_aload_n 0 dX12_init_64 rfl ?_
  refine g_iconst dX12_init_65 (-1 : Int32) (by decide) ?_
  refine g_put (kf := 8) pf_X12_35_X12 rfl (by decide : kd 559 = (0, 9)) (by decide) rfl (fun k h => absurd h (f1000 (by decide) k)) (show 559 < 566 by decide) rfl rfl dX12_init_66 ?_
  refine g_aload_n 0 dX12_init_69 rfl ?_
  refine g_iconst dX12_init_70 (-1 : Int32) (by decide) ?_
  refine g_put (kf := 9) pf_X12_38_X12 rfl (by decide : kd 559 = (0, 9)) (by decide) rfl (fun k h => absurd h (f1000 (by decide) k)) (show 559 < 566 by decide) rfl rfl dX12_init_71 ?_
  refine g_aload_n 0 dX12_init_74 rfl ?_
  refine g_iconst dX12_init_75 (0 : Int32) (by decide) ?_
  refine g_puts pf_X12_41_X12 rfl (by decide : kd 559 = (0, 9)) (show 559 < 566 by decide) (fun τ => by show Value.int (mI M 559 8 9 559 10) = .int 0; rw [mI_s (by decide) (by decide), hM559]) rfl rfl dX12_init_76 ?_
  refine g_aload_n 0 dX12_init_79 rfl ?_
  refine g_bipush dX12_init_80 (80 : Int32) (by decide) ?_
  refine g_newi (N := 80) rfl (by decide) (by decide : kd 566 = (1, 80)) (by show mI M 559 8 9 566 = _; rw [mI_n (by decide)]; exact hM 566 (by omega)) (show 566 < 572 by decide) (by omega) (by omega) ai_ dX12_init_82 ?_
  refine g_putR (cf := 7) pf_X12_45_X12 rfl (by decide : kd 559 = (0, 9)) rfl (by decide) rfl (show 559 < 567 by decide) rfl rfl rfl dX12_init_84 ?_
  refine g_aload_n 0 dX12_init_87 rfl ?_
  refine g_iconst dX12_init_88 (0 : Int32) (by decide) ?_
  refine g_puts pf_X12_48_X12 rfl (by decide : kd 559 = (0, 9)) (show 559 < 567 by decide) (fun τ => by show Value.int (mI M 559 8 9 559 12) = .int 0; rw [mI_s (by decide) (by decide), hM559]) rfl rfl dX12_init_89 ?_
  refine g_aload_n 0 dX12_init_92 rfl ?_
  refine g_bipush dX12_init_93 (60 : Int32) (by decide) ?_
  refine g_newi (N := 60) rfl (by decide) (by decide : kd 567 = (1, 60)) (by show mI M 559 8 9 567 = _; rw [mI_n (by decide)]; exact hM 567 (by omega)) (show 567 < 572 by decide) (by omega) (by omega) ai_ dX12_init_95 ?_
  refine g_putR (cf := 8) pf_X12_51_X12 rfl (by decide : kd 559 = (0, 9)) rfl (by decide) rfl (show 559 < 568 by decide) rfl rfl rfl dX12_init_97 ?_
  refine g_aload_n 0 dX12_init_100 rfl ?_
  refine g_bipush dX12_init_101 (32 : Int32) (by decide) ?_
  refine g_newi (N := 32) rfl (by decide) (by decide : kd 568 = (1, 32)) (by show mI M 559 8 9 568 = _; rw [mI_n (by decide)]; exact hM 568 (by omega)) (show 568 < 572 by decide) (by omega) (by omega) ai_ dX12_init_103 ?_
  refine g_putR (cf := 9) pf_X12_54_X12 rfl (by decide : kd 559 = (0, 9)) rfl (by decide) rfl (show 559 < 569 by decide) rfl rfl rfl dX12_init_105 ?_
  refine g_aload_n 0 dX12_init_108 rfl ?_
  refine g_sipush dX12_init_109 (128 : Int32) (by decide) ?_
  refine g_newi (N := 128) rfl (by decide) (by decide : kd 569 = (1, 128)) (by show mI M 559 8 9 569 = _; rw [mI_n (by decide)]; exact hM 569 (by omega)) (show 569 < 572 by decide) (by omega) (by omega) ai_ dX12_init_112 ?_
  refine g_putR (cf := 10) pf_X12_57_X12 rfl (by decide : kd 559 = (0, 9)) rfl (by decide) rfl (show 559 < 570 by decide) rfl rfl rfl dX12_init_114 ?_
  refine g_aload_n 0 dX12_init_117 rfl ?_
  refine g_iconst dX12_init_118 (0 : Int32) (by decide) ?_
  refine g_puts pf_X12_60_X12 rfl (by decide : kd 559 = (0, 9)) (show 559 < 570 by decide) (fun τ => by show Value.int (mI M 559 8 9 559 16) = .int 0; rw [mI_s (by decide) (by decide), hM559]) rfl rfl dX12_init_119 ?_
  refine g_aload_n 0 dX12_init_122 rfl ?_
  refine g_iconst dX12_init_123 (0 : Int32) (by decide) ?_
  refine g_puts pf_X12_63_X12 rfl (by decide : kd 559 = (0, 9)) (show 559 < 570 by decide) (fun τ => by show Value.int (mI M 559 8 9 559 17) = .int 0; rw [mI_s (by decide) (by decide), hM559]) rfl rfl dX12_init_124 ?_
  refine g_aload_n 0 dX12_init_127 rfl ?_
  refine g_iconst dX12_init_128 (0 : Int32) (by decide) ?_
  refine g_puts pf_X12_66_X12 rfl (by decide : kd 559 = (0, 9)) (show 559 < 570 by decide) (fun τ => by show Value.int (mI M 559 8 9 559 18) = .int 0; rw [mI_s (by decide) (by decide), hM559]) rfl rfl dX12_init_129 ?_
  refine g_aload_n 0 dX12_init_132 rfl ?_
  refine g_iconst dX12_init_133 (0 : Int32) (by decide) ?_
  refine g_puts pf_X12_69_X12 rfl (by decide : kd 559 = (0, 9)) (show 559 < 570 by decide) (fun τ => by show Value.int (mI M 559 8 9 559 19) = .int 0; rw [mI_s (by decide) (by decide), hM559]) rfl rfl dX12_init_134 ?_
  refine g_aload_n 0 dX12_init_137 rfl ?_
  refine g_iconst dX12_init_138 (0 : Int32) (by decide) ?_
  refine g_puts pf_X12_72_X12 rfl (by decide : kd 559 = (0, 9)) (show 559 < 570 by decide) (fun τ => by show Value.int (mI M 559 8 9 559 20) = .int 0; rw [mI_s (by decide) (by decide), hM559]) rfl rfl dX12_init_139 ?_
  refine g_bits (R' := uR R 559 11) (bits_done (n := 570) (by decide : kd 559 = (0, 9)) rfl (fun i h1 h2 => hmid_arr ((by decide +kernel : ∀ i, i < 570 → 559 < i → ¬ ((kd i).1 = 0 ∨ (kd i).1 = 5)) i h2 h1)) (fun i k h => by
    simp only [gR, setR, setM, sN, uprR]
    repeat' split
    all_goals first | rfl | omega) (fun k hk c0 c1 => by
      have h := (by decide +kernel : ∀ k, k < nf 9 → fcode 9 k ≠ 0 → fcode 9 k ≠ 1000 → k ∈ ([0, 1, 2, 3, 4, 5, 11, 13, 14, 15] : List Nat)) k hk c0 c1
      simp only [List.mem_cons, List.not_mem_nil, or_false] at h
      rcases h with rfl | rfl | rfl | rfl | rfl | rfl | rfl | rfl | rfl | rfl <;> simp [gR, setR, sN, uprR, uR, setM])) (g_vret rfl dX12_init_142 ⟨rfl, rfl⟩)
/-- the state at the loop's first turn -/
def v0 : gV := (fun j k => if (j = 0 ∧ (k = 6 ∨ k = 7)) ∨ (j = 559 ∧ (k = 8 ∨ k = 9)) then -1 else 0, fun _ _ => 0, fun _ => 0)
theorem v0_eq : mI (mI (fun _ _ => 0) 0 6 7) 559 8 9 = v0.1 := by
  funext j k
  by_cases h1 : j = 559 <;> by_cases h2 : j = 0 <;> by_cases h6 : k = 6 <;> by_cases h7 : k = 7 <;> by_cases h8 : k = 8 <;> by_cases h9 : k = 9 <;> first | omega | simp [mI, upr, upd, v0, h1, h2, h6, h7, h8, h9] | (subst_vars; simp [mI, upr, upd, v0]; done)
set_option maxHeartbeats 4000000 in
theorem g_begin {k' n' : Nat} (hd : 7 ≤ d) (h : gG E m_L_law d Q k' n' (rS v0) 28 [(0, .ref (gva E 200)), (1, .ref (gX E + 0)), (2, .ref (gX E + 559)), (3, .ref (gX E + 570)), (4, .ref (gX E + 571)), (5, .int 0)] []) : gG E m_L_law d Q (k' + 572) (n' + 10992) (0, (fun _ _ => false), (fun _ _ => 0), (fun _ _ => 0), fun _ => 0) 0 [(0, .ref (gva E 200))] [] := by
  refine g_newN 8 rfl nw_L_8 rfl (by decide : kd 0 = (0, 8)) (show 0 < 572 by decide) (fun k => rfl) rfl (f1002 (by decide)) (by omega) (show 8 ≤ _ by omega) dL_law_0 ?_
  refine g_dup dL_law_3 rfl ?_
  refine g_callI (rest := [.ref (gX E + 0)]) s_L_183 rfl rfl (i_X11 (d := d - 1) (fun _ _ => false) (fun _ _ => 0) (fun _ _ => 0) (fun _ => 0) (fun _ _ _ => rfl) (fun _ _ => rfl) (fun _ _ => rfl) rfl (by omega)) csn rfl rfl (Nat.le_of_ble_eq_true rfl) (show d - 1 + 1 ≤ d by omega) (show 558 ≤ _ by omega) (show 7353 ≤ _ by omega) dL_law_4 (adS ?_)
  refine g_astore_n [(1, .ref (gX E + 0)), (0, .ref (gva E 200))] dL_law_7 rfl (by decide) rfl ?_
  refine g_newN 21 rfl nw_L_184 rfl (by decide : kd 559 = (0, 9)) (show 559 < 572 by decide) (fun k => by show uR (fun _ _ => false) 0 559 559 k = false; rfl) (by show mI (fun _ _ => 0) 0 6 7 559 = _; rw [mI_n (by decide)]) (f1002 (by decide)) (by omega) (show 21 ≤ _ by omega) dL_law_8 ?_
  refine g_dup dL_law_11 rfl ?_
  refine g_callI (rest := [.ref (gX E + 559)]) s_L_186 rfl rfl (i_X12 (d := d - 1) (uR (fun _ _ => false) 0 559) (mI (fun _ _ => 0) 0 6 7) (fun _ _ => 0) (fun _ => 0) (fun a h => by rw [mI_n (by omega)]) (by rw [mI_n (by decide)]) (by omega)) csn rfl rfl (Nat.le_of_ble_eq_true rfl) (show d - 1 + 1 ≤ d by omega) (show 10 ≤ _ by omega) (show 3608 ≤ _ by omega) dL_law_12 (adS ?_)
  refine g_astore_n [(2, .ref (gX E + 559)), (1, .ref (gX E + 0)), (0, .ref (gva E 200))] dL_law_15 rfl (by decide) rfl ?_
  refine g_iconst dL_law_16 (1 : Int32) (by decide) ?_
  refine g_newl (N := 1) rfl (by decide) (by decide : kd 570 = (3, 1)) rfl (show 570 < 572 by decide) (by omega) (by omega) al_ dL_law_17 ?_
  refine g_astore_n [(3, .ref (gX E + 570)), (2, .ref (gX E + 559)), (1, .ref (gX E + 0)), (0, .ref (gva E 200))] dL_law_19 rfl (by decide) rfl ?_
  refine g_iconst dL_law_20 (1 : Int32) (by decide) ?_
  refine g_newd (N := 1) rfl (by decide) (by decide : kd 571 = (6, 1)) rfl (show 571 < 572 by decide) (by omega) (by omega) ad_ dL_law_21 ?_
  refine g_astore [(4, .ref (gX E + 571)), (3, .ref (gX E + 570)), (2, .ref (gX E + 559)), (1, .ref (gX E + 0)), (0, .ref (gva E 200))] dL_law_23 (by decide) rfl ?_
  refine g_iconst dL_law_25 (0 : Int32) (by decide) ?_
  refine g_istore [(5, .int (0 : Int32)), (4, .ref (gX E + 571)), (3, .ref (gX E + 570)), (2, .ref (gX E + 559)), (1, .ref (gX E + 0)), (0, .ref (gva E 200))] dL_law_26 (by decide) rfl ?_
  refine g_lv (lv' := [(0, .ref (gva E 200)), (1, .ref (gX E + 0)), (2, .ref (gX E + 559)), (3, .ref (gX E + 570)), (4, .ref (gX E + 571)), (5, .int 0)]) [5, 4, 3, 2, 1, 0] rfl ?_
  refine g_bits (R' := gRt) (fun i hi => ⟨fun h0 k hk c0 c1 c2 => ?_, fun h5 k hk5 => ?_⟩) ?_
  · show true = uR (uR (fun _ _ => false) 0 559) 559 11 i k
    have hi : i < 572 := hi
    have h9 : i < 570 := (by decide +kernel : ∀ i, i < 572 → (kd i).1 = 0 → i < 570) i hi h0
    simp only [uR]
    repeat' split
    all_goals first | rfl | omega
  · show true = uR (uR (fun _ _ => false) 0 559) 559 11 i k
    have hi : i < 572 := hi
    have h9 : i < 570 := (by decide +kernel : ∀ i, i < 572 → (kd i).1 = 5 → i < 570) i hi h5
    simp only [uR]
    repeat' split
    all_goals first | rfl | omega
  · refine g_room (k' := k') (n' := n') (by omega) (by omega) ?_
    refine g_st (σ' := rS v0) ?_ h
    show (572, gRt, mI (mI (fun _ _ => 0) 0 6 7) 559 8 9, (fun _ _ => 0), fun _ => 0) = _
    rw [v0_eq]
    rfl
end CTOR2
