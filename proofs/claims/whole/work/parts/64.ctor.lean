/-! constructors: their contracts (walks by wip/whole/gen_init.py) -/
section CTOR
def Cs (o : gO) (σ : gS) : gO → gS → Prop := fun o' σ' => o' = o ∧ σ' = σ
def uR (R : Nat → Nat → Bool) (j len : Nat) : Nat → Nat → Bool := fun a k => if j ≤ a ∧ a < j + len then true else R a k
variable {E : gE} {μ : gMd} {d : Nat} {Q : gO → gS → Prop} {k n : Nat} {σ σ' : gS} {pc : Nat} {lv : List (Nat × Value)} {rest : List Value}
theorem adS (h : gG E μ d Q k n σ' pc lv rest) : ∀ (v : Option Value) (σ'' : gS), Cs (.inl none) σ' (.inl v) σ'' → gG E μ d Q k n σ'' pc lv (v.toList ++ rest) := by
  rintro v σ'' ⟨h1, rfl⟩
  cases h1
  exact h
theorem csn {w : Option Value} : ∀ (En : String) (σ'' : gS), ¬ Cs (.inl w) σ' (.inr En) σ'' := by
  rintro En σ'' ⟨h, -⟩
  cases h
theorem f1002 {ci : Nat} (h : ci < 10) : ∀ k, fcode ci k ≠ 1002 := by
  intro q
  by_cases hq : q < 21
  · exact (by decide +kernel : ∀ c, c < 10 → ∀ q, q < 21 → fcode c q ≠ 1002) ci h q hq
  · have e : fcode ci q = 0 := by
      unfold fcode
      rw [List.getD_eq_getElem?_getD, List.getElem?_eq_none]
      · rfl
      · have := (by decide : ∀ c, c < 10 → (fqL.getD c []).length ≤ 21) ci h
        omega
    rw [e]
    decide
theorem bits_done {R R2 : Nat → Nat → Bool} {j len ci n : Nat} (hkd : kd j = (0, ci)) (hn : n = j + len) (hmid : ∀ i, j < i → i < n → (((kd i).1 = 0 → ∀ k, k < nf (kd i).2 → fcode (kd i).2 k ≠ 0 → fcode (kd i).2 k ≠ 1000 → fcode (kd i).2 k ≠ 1002 → R2 i k = true) ∧ ((kd i).1 = 5 → ∀ k, k < (kd i).2 → R2 i k = true))) (hlow : ∀ i k, i < j → R2 i k = R i k) (hset : ∀ k, k < nf ci → fcode ci k ≠ 0 → fcode ci k ≠ 1000 → R2 j k = true) : ∀ i, i < n → (((kd i).1 = 0 → ∀ k, k < nf (kd i).2 → fcode (kd i).2 k ≠ 0 → fcode (kd i).2 k ≠ 1000 → fcode (kd i).2 k ≠ 1002 → uR R j len i k = R2 i k) ∧ ((kd i).1 = 5 → ∀ k, k < (kd i).2 → uR R j len i k = R2 i k)) := by
  intro i hi
  subst hn
  have hlow2 : i < j → ∀ k, uR R j len i k = R2 i k := fun h k => by
    unfold uR
    rw [if_neg (by omega), hlow i k h]
  have hin : j ≤ i → ∀ k, uR R j len i k = true := fun h k => if_pos ⟨h, hi⟩
  refine ⟨fun h0 k hk c0 c1 c2 => ?_, fun h5 k hk5 => ?_⟩
  · by_cases h : i < j
    · exact hlow2 h k
    · by_cases e : i = j
      · subst e
        rw [hkd] at hk c0 c1
        rw [hin (Nat.le_refl _), hset k hk c0 c1]
      · rw [hin (by omega), (hmid i (by omega) hi).1 h0 k hk c0 c1 c2]
  · by_cases h : i < j
    · exact hlow2 h k
    · by_cases e : i = j
      · subst e
        rw [hkd] at h5
        cases h5
      · rw [hin (by omega), (hmid i (by omega) hi).2 h5 k hk5]
theorem hmid_arr {R2 : Nat → Nat → Bool} {i : Nat} (h : ¬ ((kd i).1 = 0 ∨ (kd i).1 = 5)) : (((kd i).1 = 0 → ∀ k, k < nf (kd i).2 → fcode (kd i).2 k ≠ 0 → fcode (kd i).2 k ≠ 1000 → fcode (kd i).2 k ≠ 1002 → R2 i k = true) ∧ ((kd i).1 = 5 → ∀ k, k < (kd i).2 → R2 i k = true)) := ⟨fun q => absurd (Or.inl q) h, fun q => absurd (Or.inr q) h⟩
theorem hmid_true {R2 : Nat → Nat → Bool} {i : Nat} (h : ∀ k, R2 i k = true) : (((kd i).1 = 0 → ∀ k, k < nf (kd i).2 → fcode (kd i).2 k ≠ 0 → fcode (kd i).2 k ≠ 1000 → fcode (kd i).2 k ≠ 1002 → R2 i k = true) ∧ ((kd i).1 = 5 → ∀ k, k < (kd i).2 → R2 i k = true)) := ⟨fun _ k _ _ _ _ => h k, fun _ k _ => h k⟩
theorem uR_hi {R : Nat → Nat → Bool} {j len c : Nat} (h : ∀ a k, c ≤ a → R a k = false) (hc : j + len ≤ c) : ∀ a k, c ≤ a → uR R j len a k = false := fun a k ha => by
  unfold uR
  rw [if_neg (by omega), h a k ha]
theorem upr_hi {R : Nat → Nat → Bool} {j kf c : Nat} (h : ∀ a k, c ≤ a → R a k = false) (hc : j < c) : ∀ a k, c ≤ a → uprR R j kf a k = false := fun a k ha => by
  unfold uprR
  rw [if_neg (fun q => by omega), h a k ha]
theorem up_hi {R : Nat → Nat → Bool} {c c' : Nat} (h : ∀ a k, c ≤ a → R a k = false) (hc : c ≤ c') : ∀ a k, c' ≤ a → R a k = false := fun a k ha => h a k (Nat.le_trans hc ha)
theorem g_newN {own : String} {idx ci : Nat} (N : Nat) (hN : nf ci = N) (hs : gNw own idx ci) (ho : md_o μ = own) (hkd : kd (gn σ) = (0, ci)) (hn : gn σ < 572) (hR : ∀ k, gR σ (gn σ) k = false) (hM : gM σ (gn σ) = fun _ => 0) (h10 : ∀ k, fcode ci k ≠ 1002) (hk : 1 ≤ k) (hn2 : N ≤ n) (hdg : decode (md_c μ) pc = .ok (.new idx, 3)) (kk : gG E μ d Q (k - 1) (n - N) (sN σ) (pc + 3) lv (.ref (gX E + gn σ) :: rest)) : gG E μ d Q k n σ pc lv rest := by
  subst hN
  exact g_new hs ho hkd hn hR hM h10 hk hn2 hdg kk
theorem narr {i t N : Nat} (h : kd i = (t, N)) (ht : t ≠ 0 ∧ t ≠ 5) : ¬ ((kd i).1 = 0 ∨ (kd i).1 = 5) := by
  rw [h]
  rintro (h1 | h1)
  · exact ht.1 h1
  · exact ht.2 h1
theorem i_X6_X5 {j : Nat} (hkd : kd j = (0, 4)) (σ : gS) (hj : j < gn σ) (hd : 1 ≤ d) : CT E m_X6_init d 0 0 [.ref (gX E + j), .ref (gX E + (j + 1))] σ (Cs (.inl none) (setR σ j 0)) := by
  refine CT.of ok_X6_init rfl (Nat.le_of_ble_eq_true rfl) ?_
  refine g_aload_n 0 dX6_init_0 rfl ?_
  refine g_oinit oi_X6_1 rfl (by omega) (Nat.le_of_ble_eq_true rfl) dX6_init_1 ?_
  refine g_aload_n 0 dX6_init_4 rfl ?_
  refine g_aload_n 1 dX6_init_5 rfl ?_
  refine g_putR (cf := 1) pf_X6_7_X5 rfl hkd rfl (by decide) rfl hj rfl rfl rfl dX6_init_6 ?_
  exact g_vret rfl dX6_init_9 ⟨rfl, rfl⟩
theorem i_X6_X2 {j : Nat} (hkd : kd j = (0, 1)) (σ : gS) (hj : j < gn σ) (hd : 1 ≤ d) : CT E m_X6_init d 0 0 [.ref (gX E + j), .ref (gX E + (j + 1))] σ (Cs (.inl none) (setR σ j 0)) := by
  refine CT.of ok_X6_init rfl (Nat.le_of_ble_eq_true rfl) ?_
  refine g_aload_n 0 dX6_init_0 rfl ?_
  refine g_oinit oi_X6_1 rfl (by omega) (Nat.le_of_ble_eq_true rfl) dX6_init_1 ?_
  refine g_aload_n 0 dX6_init_4 rfl ?_
  refine g_aload_n 1 dX6_init_5 rfl ?_
  refine g_putR (cf := 1) pf_X6_7_X2 rfl hkd rfl (by decide) rfl hj rfl rfl rfl dX6_init_6 ?_
  exact g_vret rfl dX6_init_9 ⟨rfl, rfl⟩
set_option maxHeartbeats 1000000 in
theorem i_X5 {b : Nat} (hb : isBk b) (R : Nat → Nat → Bool) (M : Nat → Nat → Int32) (L : Nat → Nat → Int64) (F : Nat → UInt64) (hR : ∀ a k, b + 1 ≤ a → R a k = false) (hM : ∀ a, b + 1 ≤ a → M a = fun _ => 0) (hL : ∀ a, b + 1 ≤ a → L a = fun _ => 0) (hd : 2 ≤ d) : CT E m_X5_init d 8 297 [.ref (gX E + (b + 1))] (b + 2, R, M, L, F) (Cs (.inl none) (b + 10, uR R (b + 1) 9, M, L, F)) := by
  have hb9 := isBk_lt hb
  refine CT.of ok_X5_init rfl (Nat.le_of_ble_eq_true rfl) ?_
  refine g_aload_n 0 dX5_init_0 rfl ?_
  refine g_bipush dX5_init_1 (8 : Int32) (by decide) ?_
  refine g_newi (N := 8) rfl (by decide) (kb_2 hb) (hM (b + 2) (by omega)) (show b + 2 < 572 by omega) (by omega) (by omega) ai_ dX5_init_3 ?_
  refine g_callI (rest := []) s_X5_3 rfl rfl (i_X6_X5 (d := d - 1) (kb_1 hb) _ (show b + 1 < _ by simp only [gn, sN]; omega) (by omega)) csn rfl rfl (Nat.le_of_ble_eq_true rfl) (show d - 1 + 1 ≤ d by omega) (Nat.zero_le _) (Nat.zero_le _) dX5_init_5 (adS ?_)
  refine g_aload_n 0 dX5_init_8 rfl ?_
  refine g_bipush dX5_init_9 (8 : Int32) (by decide) ?_
  refine g_newi (N := 8) rfl (by decide) (kb_3 hb) (hM (b + 3) (by omega)) (show b + 3 < 572 by omega) (by omega) (by omega) ai_ dX5_init_11 ?_
  refine g_putR (cf := 2) pf_X5_9_X5 rfl (kb_1 hb) rfl (by decide) rfl (show b + 1 < _ by simp only [gn, setR, sN]; omega) rfl rfl rfl dX5_init_13 ?_
  refine g_aload_n 0 dX5_init_16 rfl ?_
  refine g_bipush dX5_init_17 (8 : Int32) (by decide) ?_
  refine g_newi (N := 8) rfl (by decide) (kb_4 hb) (hM (b + 4) (by omega)) (show b + 4 < 572 by omega) (by omega) (by omega) ai_ dX5_init_19 ?_
  refine g_putR (cf := 3) pf_X5_15_X5 rfl (kb_1 hb) rfl (by decide) rfl (show b + 1 < _ by simp only [gn, setR, sN]; omega) rfl rfl rfl dX5_init_21 ?_
  refine g_aload_n 0 dX5_init_24 rfl ?_
  refine g_bipush dX5_init_25 (8 : Int32) (by decide) ?_
  refine g_newi (N := 8) rfl (by decide) (kb_5 hb) (hM (b + 5) (by omega)) (show b + 5 < 572 by omega) (by omega) (by omega) ai_ dX5_init_27 ?_
  refine g_putR (cf := 4) pf_X5_18_X5 rfl (kb_1 hb) rfl (by decide) rfl (show b + 1 < _ by simp only [gn, setR, sN]; omega) rfl rfl rfl dX5_init_29 ?_
  refine g_aload_n 0 dX5_init_32 rfl ?_
  refine g_bipush dX5_init_33 (8 : Int32) (by decide) ?_
  refine g_newi (N := 8) rfl (by decide) (kb_6 hb) (hM (b + 6) (by omega)) (show b + 6 < 572 by omega) (by omega) (by omega) ai_ dX5_init_35 ?_
  refine g_putR (cf := 5) pf_X5_21_X5 rfl (kb_1 hb) rfl (by decide) rfl (show b + 1 < _ by simp only [gn, setR, sN]; omega) rfl rfl rfl dX5_init_37 ?_
  refine g_aload_n 0 dX5_init_40 rfl ?_
  refine g_bipush dX5_init_41 (8 : Int32) (by decide) ?_
  refine g_newi (N := 8) rfl (by decide) (kb_7 hb) (hM (b + 7) (by omega)) (show b + 7 < 572 by omega) (by omega) (by omega) ai_ dX5_init_43 ?_
  refine g_putR (cf := 6) pf_X5_24_X5 rfl (kb_1 hb) rfl (by decide) rfl (show b + 1 < _ by simp only [gn, setR, sN]; omega) rfl rfl rfl dX5_init_45 ?_
  refine g_aload_n 0 dX5_init_48 rfl ?_
  refine g_bipush dX5_init_49 (8 : Int32) (by decide) ?_
  refine g_newi (N := 8) rfl (by decide) (kb_8 hb) (hM (b + 8) (by omega)) (show b + 8 < 572 by omega) (by omega) (by omega) ai_ dX5_init_51 ?_
  refine g_putR (cf := 7) pf_X5_27_X5 rfl (kb_1 hb) rfl (by decide) rfl (show b + 1 < _ by simp only [gn, setR, sN]; omega) rfl rfl rfl dX5_init_53 ?_
  refine g_aload_n 0 dX5_init_56 rfl ?_
  refine g_sipush dX5_init_57 (241 : Int32) (by decide) ?_
  refine g_newl (N := 241) rfl (by decide) (kb_9 hb) (hL (b + 9) (by omega)) (show b + 9 < 572 by omega) (by omega) (by omega) al_ dX5_init_60 ?_
  refine g_putR (cf := 8) pf_X5_30_X5 rfl (kb_1 hb) rfl (by decide) rfl (show b + 1 < _ by simp only [gn, setR, sN]; omega) rfl rfl rfl dX5_init_62 ?_
  refine g_bits (R' := uR R (b + 1) 9) (bits_done (n := b + 10) (kb_1 hb) (by omega) (fun i h1 h2 => hmid_arr (by
      have h3 : i = b + 2 ∨ i = b + 3 ∨ i = b + 4 ∨ i = b + 5 ∨ i = b + 6 ∨ i = b + 7 ∨ i = b + 8 ∨ i = b + 9 := by omega
      rcases h3 with rfl | rfl | rfl | rfl | rfl | rfl | rfl | rfl
      · exact narr (kb_2 hb) (by decide)
      · exact narr (kb_3 hb) (by decide)
      · exact narr (kb_4 hb) (by decide)
      · exact narr (kb_5 hb) (by decide)
      · exact narr (kb_6 hb) (by decide)
      · exact narr (kb_7 hb) (by decide)
      · exact narr (kb_8 hb) (by decide)
      · exact narr (kb_9 hb) (by decide))) (fun i k h => by
    simp only [gR, setR, sN, uprR]
    repeat' split
    all_goals first | rfl | omega) (fun k hk c0 c1 => by
      have h := (by decide +kernel : ∀ k, k < nf 4 → fcode 4 k ≠ 0 → fcode 4 k ≠ 1000 → k ∈ ([0, 3, 4, 5, 6, 7, 8, 9] : List Nat)) k hk c0 c1
      simp only [List.mem_cons, List.not_mem_nil, or_false] at h
      rcases h with rfl | rfl | rfl | rfl | rfl | rfl | rfl | rfl <;> simp [gR, setR, sN, uprR, uR])) ?_
  exact g_vret rfl dX5_init_65 ⟨rfl, rfl⟩
theorem kg_n17 {b i : Nat} (h : isBk b) (hi : i < 12) : kd (b + 17 + 1 + i) = (1, 4) := by
  rw [show b + 17 + 1 + i = b + (18 + i) by omega, kd_bk h (by omega)]
  exact (by decide : ∀ a, a < 12 → bkL.getD (18 + a) (1, 0) = (1, 4)) _ hi
theorem kg_n38 {b i : Nat} (h : isBk b) (hi : i < 6) : kd (b + 38 + 1 + i) = (1, 6) := by
  rw [show b + 38 + 1 + i = b + (39 + i) by omega, kd_bk h (by omega)]
  exact (by decide : ∀ a, a < 6 → bkL.getD (39 + a) (1, 0) = (1, 6)) _ hi
set_option maxHeartbeats 1000000 in
theorem i_X2 {b : Nat} (hb : isBk b) (R : Nat → Nat → Bool) (M : Nat → Nat → Int32) (L : Nat → Nat → Int64) (F : Nat → UInt64) (hR : ∀ a k, b + 10 ≤ a → R a k = false) (hM : ∀ a, b + 10 ≤ a → M a = fun _ => 0) (hL : ∀ a, b + 10 ≤ a → L a = fun _ => 0) (hd : 2 ≤ d) : CT E m_X2_init d 19 132 [.ref (gX E + (b + 10))] (b + 11, R, M, L, F) (Cs (.inl none) (b + 30, uR R (b + 10) 20, M, L, F)) := by
  have hb9 := isBk_lt hb
  refine CT.of ok_X2_init rfl (Nat.le_of_ble_eq_true rfl) ?_
  refine g_aload_n 0 dX2_init_0 rfl ?_
  refine g_bipush dX2_init_1 (12 : Int32) (by decide) ?_
  refine g_newi (N := 12) rfl (by decide) (kb_11 hb) (hM (b + 11) (by omega)) (show b + 11 < 572 by omega) (by omega) (by omega) ai_ dX2_init_3 ?_
  refine g_callI (rest := []) s_X2_3 rfl rfl (i_X6_X2 (d := d - 1) (kb_10 hb) _ (show b + 10 < _ by simp only [gn, sN]; omega) (by omega)) csn rfl rfl (Nat.le_of_ble_eq_true rfl) (show d - 1 + 1 ≤ d by omega) (Nat.zero_le _) (Nat.zero_le _) dX2_init_5 (adS ?_)
  refine g_aload_n 0 dX2_init_8 rfl ?_
  refine g_bipush dX2_init_9 (12 : Int32) (by decide) ?_
  refine g_newi (N := 12) rfl (by decide) (kb_12 hb) (hM (b + 12) (by omega)) (show b + 12 < 572 by omega) (by omega) (by omega) ai_ dX2_init_11 ?_
  refine g_putR (cf := 2) pf_X2_9_X2 rfl (kb_10 hb) rfl (by decide) rfl (show b + 10 < _ by simp only [gn, setR, sN]; omega) rfl rfl rfl dX2_init_13 ?_
  refine g_aload_n 0 dX2_init_16 rfl ?_
  refine g_bipush dX2_init_17 (12 : Int32) (by decide) ?_
  refine g_newc (N := 12) rfl (by decide) (kb_13 hb) (hM (b + 13) (by omega)) (show b + 13 < 572 by omega) (by omega) (by omega) ac_ dX2_init_19 ?_
  refine g_putR (cf := 3) pf_X2_15_X2 rfl (kb_10 hb) rfl (by decide) rfl (show b + 10 < _ by simp only [gn, setR, sN]; omega) rfl rfl rfl dX2_init_21 ?_
  refine g_aload_n 0 dX2_init_24 rfl ?_
  refine g_bipush dX2_init_25 (12 : Int32) (by decide) ?_
  refine g_newi (N := 12) rfl (by decide) (kb_14 hb) (hM (b + 14) (by omega)) (show b + 14 < 572 by omega) (by omega) (by omega) ai_ dX2_init_27 ?_
  refine g_putR (cf := 4) pf_X2_19_X2 rfl (kb_10 hb) rfl (by decide) rfl (show b + 10 < _ by simp only [gn, setR, sN]; omega) rfl rfl rfl dX2_init_29 ?_
  refine g_aload_n 0 dX2_init_32 rfl ?_
  refine g_bipush dX2_init_33 (12 : Int32) (by decide) ?_
  refine g_newi (N := 12) rfl (by decide) (kb_15 hb) (hM (b + 15) (by omega)) (show b + 15 < 572 by omega) (by omega) (by omega) ai_ dX2_init_35 ?_
  refine g_putR (cf := 5) pf_X2_22_X2 rfl (kb_10 hb) rfl (by decide) rfl (show b + 10 < _ by simp only [gn, setR, sN]; omega) rfl rfl rfl dX2_init_37 ?_
  refine g_aload_n 0 dX2_init_40 rfl ?_
  refine g_bipush dX2_init_41 (12 : Int32) (by decide) ?_
  refine g_newi (N := 12) rfl (by decide) (kb_16 hb) (hM (b + 16) (by omega)) (show b + 16 < 572 by omega) (by omega) (by omega) ai_ dX2_init_43 ?_
  refine g_putR (cf := 6) pf_X2_25_X2 rfl (kb_10 hb) rfl (by decide) rfl (show b + 10 < _ by simp only [gn, setR, sN]; omega) rfl rfl rfl dX2_init_45 ?_
  refine g_aload_n 0 dX2_init_48 rfl ?_
  refine g_bipush dX2_init_49 (12 : Int32) (by decide) ?_
  refine g_iconst dX2_init_51 (4 : Int32) (by decide) ?_
  refine g_multi (N := 12) (M := 4) rfl rfl (by decide) (by decide) rfl cl_X2_28 ai_ (kb_17 hb) (fun i hi => kg_n17 hb hi) (fun i hi => hM (b + 17 + 1 + i) (by omega)) (show b + 17 + 1 + 12 < 572 by omega) (by omega) (by omega) dX2_init_52 ?_
  refine g_putR (cf := 7) pf_X2_30_X2 rfl (kb_10 hb) rfl (by decide) rfl (show b + 10 < _ by simp only [gn, setR, sN]; omega) rfl rfl rfl dX2_init_56 ?_
  refine g_bits (R' := uR R (b + 10) 20) (bits_done (n := b + 30) (kb_10 hb) (by omega) (fun i h1 h2 => hmid_arr (by
      have h3 : i = b + 11 ∨ i = b + 12 ∨ i = b + 13 ∨ i = b + 14 ∨ i = b + 15 ∨ i = b + 16 ∨ i = b + 17 ∨ i = b + 18 ∨ i = b + 19 ∨ i = b + 20 ∨ i = b + 21 ∨ i = b + 22 ∨ i = b + 23 ∨ i = b + 24 ∨ i = b + 25 ∨ i = b + 26 ∨ i = b + 27 ∨ i = b + 28 ∨ i = b + 29 := by omega
      rcases h3 with rfl | rfl | rfl | rfl | rfl | rfl | rfl | rfl | rfl | rfl | rfl | rfl | rfl | rfl | rfl | rfl | rfl | rfl | rfl
      · exact narr (kb_11 hb) (by decide)
      · exact narr (kb_12 hb) (by decide)
      · exact narr (kb_13 hb) (by decide)
      · exact narr (kb_14 hb) (by decide)
      · exact narr (kb_15 hb) (by decide)
      · exact narr (kb_16 hb) (by decide)
      · exact narr (kb_17 hb) (by decide)
      · exact narr (kb_18 hb) (by decide)
      · exact narr (kb_19 hb) (by decide)
      · exact narr (kb_20 hb) (by decide)
      · exact narr (kb_21 hb) (by decide)
      · exact narr (kb_22 hb) (by decide)
      · exact narr (kb_23 hb) (by decide)
      · exact narr (kb_24 hb) (by decide)
      · exact narr (kb_25 hb) (by decide)
      · exact narr (kb_26 hb) (by decide)
      · exact narr (kb_27 hb) (by decide)
      · exact narr (kb_28 hb) (by decide)
      · exact narr (kb_29 hb) (by decide))) (fun i k h => by
    simp only [gR, setR, sN, uprR]
    repeat' split
    all_goals first | rfl | omega) (fun k hk c0 c1 => by
      have h := (by decide +kernel : ∀ k, k < nf 1 → fcode 1 k ≠ 0 → fcode 1 k ≠ 1000 → k ∈ ([0, 3, 4, 5, 6, 7, 8] : List Nat)) k hk c0 c1
      simp only [List.mem_cons, List.not_mem_nil, or_false] at h
      rcases h with rfl | rfl | rfl | rfl | rfl | rfl | rfl <;> simp [gR, setR, sN, uprR, uR])) ?_
  exact g_vret rfl dX2_init_59 ⟨rfl, rfl⟩
set_option maxHeartbeats 1000000 in
theorem i_X8 {b : Nat} (hb : isBk b) (R : Nat → Nat → Bool) (M : Nat → Nat → Int32) (L : Nat → Nat → Int64) (F : Nat → UInt64) (hR : ∀ a k, b + 30 ≤ a → R a k = false) (hM : ∀ a, b + 30 ≤ a → M a = fun _ => 0) (hL : ∀ a, b + 30 ≤ a → L a = fun _ => 0) (hd : 2 ≤ d) : CT E m_X8_init d 6 24 [.ref (gX E + (b + 30))] (b + 31, R, M, L, F) (Cs (.inl none) (b + 37, uR R (b + 30) 7, M, L, F)) := by
  have hb9 := isBk_lt hb
  refine CT.of ok_X8_init rfl (Nat.le_of_ble_eq_true rfl) ?_
  refine g_aload_n 0 dX8_init_0 rfl ?_
  refine g_oinit oi_X8_3 rfl (by omega) (Nat.le_of_ble_eq_true rfl) dX8_init_1 ?_
  refine g_aload_n 0 dX8_init_4 rfl ?_
  refine g_iconst dX8_init_5 (4 : Int32) (by decide) ?_
  refine g_newi (N := 4) rfl (by decide) (kb_31 hb) (hM (b + 31) (by omega)) (show b + 31 < 572 by omega) (by omega) (by omega) ai_ dX8_init_6 ?_
  refine g_putR (cf := 1) pf_X8_9_X8 rfl (kb_30 hb) rfl (by decide) rfl (show b + 30 < _ by simp only [gn, setR, sN]; omega) rfl rfl rfl dX8_init_8 ?_
  refine g_aload_n 0 dX8_init_11 rfl ?_
  refine g_iconst dX8_init_12 (4 : Int32) (by decide) ?_
  refine g_newi (N := 4) rfl (by decide) (kb_32 hb) (hM (b + 32) (by omega)) (show b + 32 < 572 by omega) (by omega) (by omega) ai_ dX8_init_13 ?_
  refine g_putR (cf := 2) pf_X8_15_X8 rfl (kb_30 hb) rfl (by decide) rfl (show b + 30 < _ by simp only [gn, setR, sN]; omega) rfl rfl rfl dX8_init_15 ?_
  refine g_aload_n 0 dX8_init_18 rfl ?_
  refine g_iconst dX8_init_19 (4 : Int32) (by decide) ?_
  refine g_newi (N := 4) rfl (by decide) (kb_33 hb) (hM (b + 33) (by omega)) (show b + 33 < 572 by omega) (by omega) (by omega) ai_ dX8_init_20 ?_
  refine g_putR (cf := 3) pf_X8_18_X8 rfl (kb_30 hb) rfl (by decide) rfl (show b + 30 < _ by simp only [gn, setR, sN]; omega) rfl rfl rfl dX8_init_22 ?_
  refine g_aload_n 0 dX8_init_25 rfl ?_
  refine g_iconst dX8_init_26 (4 : Int32) (by decide) ?_
  refine g_newi (N := 4) rfl (by decide) (kb_34 hb) (hM (b + 34) (by omega)) (show b + 34 < 572 by omega) (by omega) (by omega) ai_ dX8_init_27 ?_
  refine g_putR (cf := 4) pf_X8_21_X8 rfl (kb_30 hb) rfl (by decide) rfl (show b + 30 < _ by simp only [gn, setR, sN]; omega) rfl rfl rfl dX8_init_29 ?_
  refine g_aload_n 0 dX8_init_32 rfl ?_
  refine g_iconst dX8_init_33 (4 : Int32) (by decide) ?_
  refine g_newi (N := 4) rfl (by decide) (kb_35 hb) (hM (b + 35) (by omega)) (show b + 35 < 572 by omega) (by omega) (by omega) ai_ dX8_init_34 ?_
  refine g_putR (cf := 5) pf_X8_24_X8 rfl (kb_30 hb) rfl (by decide) rfl (show b + 30 < _ by simp only [gn, setR, sN]; omega) rfl rfl rfl dX8_init_36 ?_
  refine g_aload_n 0 dX8_init_39 rfl ?_
  refine g_iconst dX8_init_40 (4 : Int32) (by decide) ?_
  refine g_newi (N := 4) rfl (by decide) (kb_36 hb) (hM (b + 36) (by omega)) (show b + 36 < 572 by omega) (by omega) (by omega) ai_ dX8_init_41 ?_
  refine g_putR (cf := 6) pf_X8_27_X8 rfl (kb_30 hb) rfl (by decide) rfl (show b + 30 < _ by simp only [gn, setR, sN]; omega) rfl rfl rfl dX8_init_43 ?_
  refine g_bits (R' := uR R (b + 30) 7) (bits_done (n := b + 37) (kb_30 hb) (by omega) (fun i h1 h2 => hmid_arr (by
      have h3 : i = b + 31 ∨ i = b + 32 ∨ i = b + 33 ∨ i = b + 34 ∨ i = b + 35 ∨ i = b + 36 := by omega
      rcases h3 with rfl | rfl | rfl | rfl | rfl | rfl
      · exact narr (kb_31 hb) (by decide)
      · exact narr (kb_32 hb) (by decide)
      · exact narr (kb_33 hb) (by decide)
      · exact narr (kb_34 hb) (by decide)
      · exact narr (kb_35 hb) (by decide)
      · exact narr (kb_36 hb) (by decide))) (fun i k h => by
    simp only [gR, setR, sN, uprR]
    repeat' split
    all_goals first | rfl | omega) (fun k hk c0 c1 => by
      have h := (by decide +kernel : ∀ k, k < nf 6 → fcode 6 k ≠ 0 → fcode 6 k ≠ 1000 → k ∈ ([0, 1, 2, 3, 4, 5] : List Nat)) k hk c0 c1
      simp only [List.mem_cons, List.not_mem_nil, or_false] at h
      rcases h with rfl | rfl | rfl | rfl | rfl | rfl <;> simp [gR, setR, sN, uprR, uR])) ?_
  exact g_vret rfl dX8_init_46 ⟨rfl, rfl⟩
set_option maxHeartbeats 1000000 in
theorem i_X9 {b : Nat} (hb : isBk b) (R : Nat → Nat → Bool) (M : Nat → Nat → Int32) (L : Nat → Nat → Int64) (F : Nat → UInt64) (hR : ∀ a k, b + 37 ≤ a → R a k = false) (hM : ∀ a, b + 37 ≤ a → M a = fun _ => 0) (hL : ∀ a, b + 37 ≤ a → L a = fun _ => 0) (hd : 2 ≤ d) : CT E m_X9_init d 7 42 [.ref (gX E + (b + 37))] (b + 38, R, M, L, F) (Cs (.inl none) (b + 45, uR R (b + 37) 8, M, L, F)) := by
  have hb9 := isBk_lt hb
  refine CT.of ok_X9_init rfl (Nat.le_of_ble_eq_true rfl) ?_
  refine g_aload_n 0 dX9_init_0 rfl ?_
  refine g_oinit oi_X9_3 rfl (by omega) (Nat.le_of_ble_eq_true rfl) dX9_init_1 ?_
  refine g_aload_n 0 dX9_init_4 rfl ?_
  refine g_bipush dX9_init_5 (6 : Int32) (by decide) ?_
  refine g_bipush dX9_init_7 (6 : Int32) (by decide) ?_
  refine g_multi (N := 6) (M := 6) rfl rfl (by decide) (by decide) rfl cl_X9_9 ai_ (kb_38 hb) (fun i hi => kg_n38 hb hi) (fun i hi => hM (b + 38 + 1 + i) (by omega)) (show b + 38 + 1 + 6 < 572 by omega) (by omega) (by omega) dX9_init_9 ?_
  refine g_putR (cf := 1) pf_X9_11_X9 rfl (kb_37 hb) rfl (by decide) rfl (show b + 37 < _ by simp only [gn, setR, sN]; omega) rfl rfl rfl dX9_init_13 ?_
  refine g_bits (R' := uR R (b + 37) 8) (bits_done (n := b + 45) (kb_37 hb) (by omega) (fun i h1 h2 => hmid_arr (by
      have h3 : i = b + 38 ∨ i = b + 39 ∨ i = b + 40 ∨ i = b + 41 ∨ i = b + 42 ∨ i = b + 43 ∨ i = b + 44 := by omega
      rcases h3 with rfl | rfl | rfl | rfl | rfl | rfl | rfl
      · exact narr (kb_38 hb) (by decide)
      · exact narr (kb_39 hb) (by decide)
      · exact narr (kb_40 hb) (by decide)
      · exact narr (kb_41 hb) (by decide)
      · exact narr (kb_42 hb) (by decide)
      · exact narr (kb_43 hb) (by decide)
      · exact narr (kb_44 hb) (by decide))) (fun i k h => by
    simp only [gR, setR, sN, uprR]
    repeat' split
    all_goals first | rfl | omega) (fun k hk c0 c1 => by
      have h := (by decide +kernel : ∀ k, k < nf 7 → fcode 7 k ≠ 0 → fcode 7 k ≠ 1000 → k ∈ ([0] : List Nat)) k hk c0 c1
      simp only [List.mem_cons, List.not_mem_nil, or_false] at h
      rcases h with rfl <;> simp [gR, setR, sN, uprR, uR])) ?_
  exact g_vret rfl dX9_init_16 ⟨rfl, rfl⟩
set_option maxHeartbeats 1000000 in
theorem i_X4 {b : Nat} (hb : isBk b) (R : Nat → Nat → Bool) (M : Nat → Nat → Int32) (L : Nat → Nat → Int64) (F : Nat → UInt64) (hR : ∀ a k, b + 45 ≤ a → R a k = false) (hM : ∀ a, b + 45 ≤ a → M a = fun _ => 0) (hL : ∀ a, b + 45 ≤ a → L a = fun _ => 0) (hd : 2 ≤ d) : CT E m_X4_init d 4 124 [.ref (gX E + (b + 45))] (b + 46, R, M, L, F) (Cs (.inl none) (b + 50, uR R (b + 45) 5, M, L, F)) := by
  have hb9 := isBk_lt hb
  refine CT.of ok_X4_init rfl (Nat.le_of_ble_eq_true rfl) ?_
  refine g_aload_n 0 dX4_init_0 rfl ?_
  refine g_oinit oi_X4_3 rfl (by omega) (Nat.le_of_ble_eq_true rfl) dX4_init_1 ?_
  refine g_aload_n 0 dX4_init_4 rfl ?_
  refine g_bipush dX4_init_5 (8 : Int32) (by decide) ?_
  refine g_newi (N := 8) rfl (by decide) (kb_46 hb) (hM (b + 46) (by omega)) (show b + 46 < 572 by omega) (by omega) (by omega) ai_ dX4_init_7 ?_
  refine g_putR (cf := 1) pf_X4_9_X4 rfl (kb_45 hb) rfl (by decide) rfl (show b + 45 < _ by simp only [gn, setR, sN]; omega) rfl rfl rfl dX4_init_9 ?_
  refine g_aload_n 0 dX4_init_12 rfl ?_
  refine g_bipush dX4_init_13 (8 : Int32) (by decide) ?_
  refine g_newi (N := 8) rfl (by decide) (kb_47 hb) (hM (b + 47) (by omega)) (show b + 47 < 572 by omega) (by omega) (by omega) ai_ dX4_init_15 ?_
  refine g_putR (cf := 2) pf_X4_15_X4 rfl (kb_45 hb) rfl (by decide) rfl (show b + 45 < _ by simp only [gn, setR, sN]; omega) rfl rfl rfl dX4_init_17 ?_
  refine g_aload_n 0 dX4_init_20 rfl ?_
  refine g_bipush dX4_init_21 (8 : Int32) (by decide) ?_
  refine g_newi (N := 8) rfl (by decide) (kb_48 hb) (hM (b + 48) (by omega)) (show b + 48 < 572 by omega) (by omega) (by omega) ai_ dX4_init_23 ?_
  refine g_putR (cf := 3) pf_X4_18_X4 rfl (kb_45 hb) rfl (by decide) rfl (show b + 45 < _ by simp only [gn, setR, sN]; omega) rfl rfl rfl dX4_init_25 ?_
  refine g_aload_n 0 dX4_init_28 rfl ?_
  refine g_bipush dX4_init_29 (100 : Int32) (by decide) ?_
  refine g_newi (N := 100) rfl (by decide) (kb_49 hb) (hM (b + 49) (by omega)) (show b + 49 < 572 by omega) (by omega) (by omega) ai_ dX4_init_31 ?_
  refine g_putR (cf := 4) pf_X4_21_X4 rfl (kb_45 hb) rfl (by decide) rfl (show b + 45 < _ by simp only [gn, setR, sN]; omega) rfl rfl rfl dX4_init_33 ?_
  refine g_bits (R' := uR R (b + 45) 5) (bits_done (n := b + 50) (kb_45 hb) (by omega) (fun i h1 h2 => hmid_arr (by
      have h3 : i = b + 46 ∨ i = b + 47 ∨ i = b + 48 ∨ i = b + 49 := by omega
      rcases h3 with rfl | rfl | rfl | rfl
      · exact narr (kb_46 hb) (by decide)
      · exact narr (kb_47 hb) (by decide)
      · exact narr (kb_48 hb) (by decide)
      · exact narr (kb_49 hb) (by decide))) (fun i k h => by
    simp only [gR, setR, sN, uprR]
    repeat' split
    all_goals first | rfl | omega) (fun k hk c0 c1 => by
      have h := (by decide +kernel : ∀ k, k < nf 3 → fcode 3 k ≠ 0 → fcode 3 k ≠ 1000 → k ∈ ([0, 1, 2, 3] : List Nat)) k hk c0 c1
      simp only [List.mem_cons, List.not_mem_nil, or_false] at h
      rcases h with rfl | rfl | rfl | rfl <;> simp [gR, setR, sN, uprR, uR])) ?_
  exact g_vret rfl dX4_init_36 ⟨rfl, rfl⟩
set_option maxHeartbeats 2000000 in
theorem i_X1 {b : Nat} (hb : isBk b) (R : Nat → Nat → Bool) (M : Nat → Nat → Int32) (L : Nat → Nat → Int64) (F : Nat → UInt64) (hR : ∀ a k, b + 1 ≤ a → R a k = false) (hM : ∀ a, b + 1 ≤ a → M a = fun _ => 0) (hL : ∀ a, b + 1 ≤ a → L a = fun _ => 0) (hd : 3 ≤ d) : CT E m_X1_init d 49 651 [.ref (gX E + b)] (b + 1, R, M, L, F) (Cs (.inl none) (b + 50, uR R b 50, M, L, F)) := by
  have hb9 := isBk_lt hb
  refine CT.of ok_X1_init rfl (Nat.le_of_ble_eq_true rfl) ?_
  refine g_aload_n 0 dX1_init_0 rfl ?_
  refine g_oinit oi_X1_3 rfl (by omega) (Nat.le_of_ble_eq_true rfl) dX1_init_1 ?_
  refine g_aload_n 0 dX1_init_4 rfl ?_
  have g1 : ∀ a k, b + 1 ≤ a → (R) a k = false := up_hi hR (by omega)
  refine g_newN 10 rfl nw_X1_9 rfl (kb_1 hb) (show b + 1 < 572 by omega) (fun k => g1 _ k (Nat.le_refl _)) (hM (b + 1) (by omega)) (f1002 (by decide)) (by omega) (show 10 ≤ _ by omega) dX1_init_5 ?_
  refine g_dup dX1_init_8 rfl ?_
  refine g_callI (rest := [.ref (gX E + (b + 1)), .ref (gX E + b)]) s_X1_11 rfl rfl (i_X5 (d := d - 1) hb (R) M L F g1 (fun a h => hM a (by omega)) (fun a h => hL a (by omega)) (by omega)) csn rfl rfl (Nat.le_of_ble_eq_true rfl) (show d - 1 + 1 ≤ d by omega) (show 8 ≤ _ by omega) (show 297 ≤ _ by omega) dX1_init_9 (adS ?_)
  refine g_putR (cf := 1) pf_X1_12_X1 rfl (kbz hb) rfl (by decide) rfl (show b < b + 10 by omega) rfl rfl rfl dX1_init_12 ?_
  have k1 : ∀ a k, b + 10 ≤ a → (uprR (uR (R) (b + 1) 9) b 0) a k = false := upr_hi (uR_hi (up_hi g1 (by omega)) (by omega)) (by omega)
  refine g_aload_n 0 dX1_init_15 rfl ?_
  have g10 : ∀ a k, b + 10 ≤ a → (uprR (uR (R) (b + 1) 9) b 0) a k = false := up_hi k1 (by omega)
  refine g_newN 9 rfl nw_X1_18 rfl (kb_10 hb) (show b + 10 < 572 by omega) (fun k => g10 _ k (Nat.le_refl _)) (hM (b + 10) (by omega)) (f1002 (by decide)) (by omega) (show 9 ≤ _ by omega) dX1_init_16 ?_
  refine g_dup dX1_init_19 rfl ?_
  refine g_callI (rest := [.ref (gX E + (b + 10)), .ref (gX E + b)]) s_X1_20 rfl rfl (i_X2 (d := d - 1) hb (uprR (uR (R) (b + 1) 9) b 0) M L F g10 (fun a h => hM a (by omega)) (fun a h => hL a (by omega)) (by omega)) csn rfl rfl (Nat.le_of_ble_eq_true rfl) (show d - 1 + 1 ≤ d by omega) (show 19 ≤ _ by omega) (show 132 ≤ _ by omega) dX1_init_20 (adS ?_)
  refine g_putR (cf := 10) pf_X1_21_X1 rfl (kbz hb) rfl (by decide) rfl (show b < b + 30 by omega) rfl rfl rfl dX1_init_23 ?_
  have k10 : ∀ a k, b + 30 ≤ a → (uprR (uR (uprR (uR (R) (b + 1) 9) b 0) (b + 10) 20) b 1) a k = false := upr_hi (uR_hi (up_hi g10 (by omega)) (by omega)) (by omega)
  refine g_aload_n 0 dX1_init_26 rfl ?_
  have g30 : ∀ a k, b + 30 ≤ a → (uprR (uR (uprR (uR (R) (b + 1) 9) b 0) (b + 10) 20) b 1) a k = false := up_hi k10 (by omega)
  refine g_newN 7 rfl nw_X1_25 rfl (kb_30 hb) (show b + 30 < 572 by omega) (fun k => g30 _ k (Nat.le_refl _)) (hM (b + 30) (by omega)) (f1002 (by decide)) (by omega) (show 7 ≤ _ by omega) dX1_init_27 ?_
  refine g_dup dX1_init_30 rfl ?_
  refine g_callJ (rest := [.ref (gX E + (b + 30)), .ref (gX E + b)]) s_X1_27 rfl rfl (i_X8 (d := d - 1) hb (uprR (uR (uprR (uR (R) (b + 1) 9) b 0) (b + 10) 20) b 1) M L F g30 (fun a h => hM a (by omega)) (fun a h => hL a (by omega)) (by omega)) csn rfl rfl (Nat.le_of_ble_eq_true rfl) (show d - 1 + 1 ≤ d by omega) (show 6 ≤ _ by omega) (show 24 ≤ _ by omega) dX1_init_31 (adS ?_)
  refine g_putR (cf := 30) pf_X1_28_X1 rfl (kbz hb) rfl (by decide) rfl (show b < b + 37 by omega) rfl rfl rfl dX1_init_34 ?_
  have k30 : ∀ a k, b + 37 ≤ a → (uprR (uR (uprR (uR (uprR (uR (R) (b + 1) 9) b 0) (b + 10) 20) b 1) (b + 30) 7) b 2) a k = false := upr_hi (uR_hi (up_hi g30 (by omega)) (by omega)) (by omega)
  refine g_aload_n 0 dX1_init_37 rfl ?_
  have g37 : ∀ a k, b + 37 ≤ a → (uprR (uR (uprR (uR (uprR (uR (R) (b + 1) 9) b 0) (b + 10) 20) b 1) (b + 30) 7) b 2) a k = false := up_hi k30 (by omega)
  refine g_newN 1 rfl nw_X1_32 rfl (kb_37 hb) (show b + 37 < 572 by omega) (fun k => g37 _ k (Nat.le_refl _)) (hM (b + 37) (by omega)) (f1002 (by decide)) (by omega) (show 1 ≤ _ by omega) dX1_init_38 ?_
  refine g_dup dX1_init_41 rfl ?_
  refine g_callJ (rest := [.ref (gX E + (b + 37)), .ref (gX E + b)]) s_X1_34 rfl rfl (i_X9 (d := d - 1) hb (uprR (uR (uprR (uR (uprR (uR (R) (b + 1) 9) b 0) (b + 10) 20) b 1) (b + 30) 7) b 2) M L F g37 (fun a h => hM a (by omega)) (fun a h => hL a (by omega)) (by omega)) csn rfl rfl (Nat.le_of_ble_eq_true rfl) (show d - 1 + 1 ≤ d by omega) (show 7 ≤ _ by omega) (show 42 ≤ _ by omega) dX1_init_42 (adS ?_)
  refine g_putR (cf := 37) pf_X1_35_X1 rfl (kbz hb) rfl (by decide) rfl (show b < b + 45 by omega) rfl rfl rfl dX1_init_45 ?_
  have k37 : ∀ a k, b + 45 ≤ a → (uprR (uR (uprR (uR (uprR (uR (uprR (uR (R) (b + 1) 9) b 0) (b + 10) 20) b 1) (b + 30) 7) b 2) (b + 37) 8) b 3) a k = false := upr_hi (uR_hi (up_hi g37 (by omega)) (by omega)) (by omega)
  refine g_aload_n 0 dX1_init_48 rfl ?_
  have g45 : ∀ a k, b + 45 ≤ a → (uprR (uR (uprR (uR (uprR (uR (uprR (uR (R) (b + 1) 9) b 0) (b + 10) 20) b 1) (b + 30) 7) b 2) (b + 37) 8) b 3) a k = false := up_hi k37 (by omega)
  refine g_newN 5 rfl nw_X1_39 rfl (kb_45 hb) (show b + 45 < 572 by omega) (fun k => g45 _ k (Nat.le_refl _)) (hM (b + 45) (by omega)) (f1002 (by decide)) (by omega) (show 5 ≤ _ by omega) dX1_init_49 ?_
  refine g_dup dX1_init_52 rfl ?_
  refine g_callJ (rest := [.ref (gX E + (b + 45)), .ref (gX E + b)]) s_X1_41 rfl rfl (i_X4 (d := d - 1) hb (uprR (uR (uprR (uR (uprR (uR (uprR (uR (R) (b + 1) 9) b 0) (b + 10) 20) b 1) (b + 30) 7) b 2) (b + 37) 8) b 3) M L F g45 (fun a h => hM a (by omega)) (fun a h => hL a (by omega)) (by omega)) csn rfl rfl (Nat.le_of_ble_eq_true rfl) (show d - 1 + 1 ≤ d by omega) (show 4 ≤ _ by omega) (show 124 ≤ _ by omega) dX1_init_53 (adS ?_)
  refine g_putR (cf := 45) pf_X1_42_X1 rfl (kbz hb) rfl (by decide) rfl (show b < b + 50 by omega) rfl rfl rfl dX1_init_56 ?_
  have k45 : ∀ a k, b + 50 ≤ a → (uprR (uR (uprR (uR (uprR (uR (uprR (uR (uprR (uR (R) (b + 1) 9) b 0) (b + 10) 20) b 1) (b + 30) 7) b 2) (b + 37) 8) b 3) (b + 45) 5) b 4) a k = false := upr_hi (uR_hi (up_hi g45 (by omega)) (by omega)) (by omega)
  refine g_bits (R' := uR R b 50) (bits_done (n := b + 50) (kbz hb) rfl (fun i h1 h2 => hmid_true (fun k => by
      simp only [gR, setR, sN, uprR, uR]
      repeat' split
      all_goals first | rfl | omega)) (fun i k h => by
      simp only [gR, setR, sN, uprR, uR]
      repeat' split
      all_goals first | rfl | omega) (fun k hk c0 c1 => by
      have h := (by decide +kernel : ∀ k, k < nf 0 → fcode 0 k ≠ 0 → fcode 0 k ≠ 1000 → k ∈ ([0, 1, 2, 3, 4] : List Nat)) k hk c0 c1
      simp only [List.mem_cons, List.not_mem_nil, or_false] at h
      rcases h with rfl | rfl | rfl | rfl | rfl <;> simp [gR, setR, sN, uprR, uR])) ?_
  exact g_vret rfl dX1_init_59 ⟨rfl, rfl⟩
theorem i_J5 {j : Nat} (hj : j = 554 ∨ j = 557) (R : Nat → Nat → Bool) (M : Nat → Nat → Int32) (L : Nat → Nat → Int64) (F : Nat → UInt64) (hM : M j = fun _ => 0) (hd : 2 ≤ d) : CT E m_J5_init_d00df d 1 16 [.ref (gX E + j), .int 16] (j + 1, R, M, L, F) (Cs (.inl none) (j + 2, uprR R j 0, M, L, F)) := by
  refine CT.ofF ok_J5_init_d00df rfl (Nat.le_of_ble_eq_true rfl) ?_
  refine g_aload_n 0 dJ5_init_d00df_0 rfl ?_
  refine g_oinit oi_J5_3 rfl (by omega) (Nat.le_of_ble_eq_true rfl) dJ5_init_d00df_1 ?_
  refine g_gets (.int 1) (fun s h => gvb_c h) lk_J5_18 rfl dJ5_init_d00df_4 ?_
  refine g_if_eq 25 dJ5_init_d00df_7 (by decide) (fun h => absurd h (by decide)) (fun _ => ?_)
  refine g_aload_n 0 dJ5_init_d00df_10 rfl ?_
  refine g_iload_n 1 dJ5_init_d00df_11 rfl ?_
  refine g_newput (N := 16) rfl (by decide) pf_J5_15 rfl hj rfl hM (by omega) (by omega) dJ5_init_d00df_12 dJ5_init_d00df_14 ?_
  refine g_aload_n 0 dJ5_init_d00df_17 rfl ?_
  refine g_iconst dJ5_init_d00df_18 (0 : Int32) (by decide) ?_
  refine g_puts pf_J5_22 rfl (kdB hj) (show j < j + 1 + 1 by omega) (fun τ => by show Value.int (M j 1) = .int 0; rw [hM]) rfl rfl dJ5_init_d00df_19 ?_
  refine g_goto 38 dJ5_init_d00df_22 (by decide) ?_
  exact g_vret rfl dJ5_init_d00df_38 ⟨rfl, rfl⟩
theorem i_J4 {j : Nat} (hj : j = 554 ∨ j = 557) (R : Nat → Nat → Bool) (M : Nat → Nat → Int32) (L : Nat → Nat → Int64) (F : Nat → UInt64) (hM : M j = fun _ => 0) (hd : 3 ≤ d) : CT E m_J4_init_da8c8 d 1 16 [.ref (gX E + j)] (j + 1, R, M, L, F) (Cs (.inl none) (j + 2, uprR R j 0, M, L, F)) := by
  refine CT.ofF ok_J4_init_da8c8 rfl (Nat.le_of_ble_eq_true rfl) ?_
  refine g_aload_n 0 dJ4_init_da8c8_0 rfl ?_
  refine g_bipush dJ4_init_da8c8_1 (16 : Int32) (by decide) ?_
  refine g_callI (rest := []) s_J4_1 rfl rfl (i_J5 (d := d - 1) hj R M L F hM (by omega)) csn rfl rfl (Nat.le_of_ble_eq_true rfl) (show d - 1 + 1 ≤ d by omega) (Nat.le_refl _) (Nat.le_refl _) dJ4_init_da8c8_3 (adS ?_)
  exact g_vret rfl dJ4_init_da8c8_6 ⟨rfl, rfl⟩
/-- the ring after i books -/
def RH (R : Nat → Nat → Bool) (i : Nat) : Nat → Nat → Bool := fun a k => if 103 ≤ a ∧ a < 103 + 50 * i then true else if a = 102 ∧ k < i then true else if a = 101 ∧ k = 0 then true else R a k
theorem RH_0 {R : Nat → Nat → Bool} : uprR R 101 0 = RH R 0 := by
  funext a k
  simp only [uprR, RH]
  repeat' split
  all_goals first | rfl | omega
theorem RH_s {R : Nat → Nat → Bool} {i : Nat} : uprR (uR (RH R i) (103 + 50 * i) 50) 102 i = RH R (i + 1) := by
  funext a k
  simp only [uprR, uR, RH]
  repeat' split
  all_goals first | rfl | omega
theorem RH_hi {R : Nat → Nat → Bool} {i : Nat} (h : ∀ a k, 102 ≤ a → R a k = false) : ∀ a k, 103 + 50 * i ≤ a → RH R i a k = false := fun a k ha => by
  unfold RH
  rw [if_neg (by omega), if_neg (by omega), if_neg (by omega), h a k (by omega)]
theorem bk_ring {i : Nat} (h : i < 9) : isBk (103 + 50 * i) := Or.inr (Or.inr ⟨i, h, rfl⟩)
set_option maxHeartbeats 2000000 in
theorem i_X3L {Q : gO → gS → Prop} (R : Nat → Nat → Bool) (M : Nat → Nat → Int32) (L : Nat → Nat → Int64) (F : Nat → UInt64) (hR : ∀ a k, 102 ≤ a → R a k = false) (hM : ∀ a, 102 ≤ a → M a = fun _ => 0) (hL : ∀ a, 102 ≤ a → L a = fun _ => 0) (hd : 4 ≤ d) (hQ : Q (.inl none) (553, uR R 101 452, M, L, F)) : ∀ (r i : Nat), i + r = 9 → gG E m_X3_init d Q (50 * r) (663 * r) (103 + 50 * i, RH R i, M, L, F) 15 [(0, .ref (gX E + 101)), (1, .int (nI i))] [] := by
  intro r
  induction r with
  | zero =>
    intro i h
    obtain rfl : i = 9 := by omega
    refine g_iload_n 1 dX3_init_15 rfl ?_
    refine g_bipush dX3_init_16 (9 : Int32) (by decide) ?_
    refine g_icmp_ge 40 dX3_init_18 (by decide) (fun _ => ?_) (fun h => absurd (Int32.le_refl _) h)
    refine g_bits (R' := uR R 101 452) (fun i hi => ⟨fun h0 k hk c0 c1 c2 => ?_, fun h5 k hk5 => ?_⟩) (g_vret rfl dX3_init_40 hQ)
    · show uR R 101 452 i k = RH R 9 i k
      by_cases e1 : i = 101
      · subst e1
        have h := (by decide : ∀ k, k < nf 2 → fcode 2 k ≠ 0 → k = 0) k hk c0
        subst h
        rfl
      · by_cases e2 : i = 102
        · subst e2
          exact absurd h0 (by decide)
        · have hi : i < 553 := hi
          simp only [uR, RH]
          repeat' split
          all_goals first | rfl | omega
    · show uR R 101 452 i k = RH R 9 i k
      have hi : i < 553 := hi
      have e2 : i = 102 := (by decide +kernel : ∀ i, i < 553 → (kd i).1 = 5 → i = 102) i hi h5
      subst e2
      have hk5 : k < 9 := hk5
      rw [show uR R 101 452 102 k = true from if_pos ⟨by decide, by decide⟩]
      unfold RH
      rw [if_neg (by omega), if_pos ⟨rfl, hk5⟩]
  | succ r ih =>
    intro i h
    have hi9 : i < 9 := by omega
    refine g_iload_n 1 dX3_init_15 rfl ?_
    refine g_bipush dX3_init_16 (9 : Int32) (by decide) ?_
    refine g_icmp_ge 40 dX3_init_18 (by decide) (fun h => absurd h (nI_ge hi9 (by decide))) (fun _ => ?_)
    refine g_aload_n 0 dX3_init_21 rfl ?_
    refine g_get (.ref (gX E + 102)) f_X3_11_X3 rfl (by decide : kd 101 = (0, 2)) (show 101 < 103 + 50 * i by omega) dX3_init_22 (fun τ => ?_) ?_
    · show (if RH R i 101 0 = true then Value.ref (gX E + (101 + 1)) else .null) = _
      rw [show RH R i 101 0 = true from by simp [RH], if_pos rfl]
    refine g_iload_n 1 dX3_init_25 rfl ?_
    refine g_newN 12 rfl nw_X3_9 rfl (kd_ring hi9) (show 103 + 50 * i < 572 by omega) (fun k => RH_hi hR _ k (Nat.le_refl _)) (hM (103 + 50 * i) (by omega)) (f1002 (by decide)) (by omega) (show 12 ≤ _ by omega) dX3_init_26 ?_
    refine g_dup dX3_init_29 rfl ?_
    refine g_callJ (rest := [.ref (gX E + (103 + 50 * i)), .int (nI i), .ref (gX E + 102)]) s_X3_17 rfl rfl (i_X1 (d := d - 1) (bk_ring hi9) (RH R i) M L F (up_hi (RH_hi hR) (by omega)) (fun a h => hM a (by omega)) (fun a h => hL a (by omega)) (by omega)) csn rfl rfl (Nat.le_of_ble_eq_true rfl) (show d - 1 + 1 ≤ d by omega) (show 49 ≤ _ by omega) (show 651 ≤ _ by omega) dX3_init_30 (adS ?_)
    refine g_aastB hi9 (show 103 + 50 * i < 103 + 50 * i + 50 by omega) dX3_init_33 ?_
    refine g_iinc 1 (nI (i + 1)) [(1, .int (nI (i + 1))), (0, .ref (gX E + 101))] dX3_init_34 rfl (nI_1 i) (by decide) rfl ?_
    refine g_goto 15 dX3_init_37 (by decide) ?_
    refine g_lv (lv' := [(0, .ref (gX E + 101)), (1, .int (nI (i + 1)))]) [1, 0] rfl ?_
    have e := RH_s (R := R) (i := i)
    refine g_st (σ' := (103 + 50 * (i + 1), RH R (i + 1), M, L, F)) ?_ (g_room (k' := 50 * r) (n' := 663 * r) (by omega) (by omega) (ih (i + 1) (by omega)))
    show (103 + 50 * i + 50, uprR (uR (RH R i) (103 + 50 * i) 50) 102 i, M, L, F) = _
    rw [e, show 103 + 50 * (i + 1) = 103 + 50 * i + 50 by omega]
set_option maxHeartbeats 2000000 in
theorem i_X3 (R : Nat → Nat → Bool) (M : Nat → Nat → Int32) (L : Nat → Nat → Int64) (F : Nat → UInt64) (hR : ∀ a k, 102 ≤ a → R a k = false) (hM : ∀ a, 102 ≤ a → M a = fun _ => 0) (hL : ∀ a, 102 ≤ a → L a = fun _ => 0) (hd : 4 ≤ d) : CT E m_X3_init d 451 5976 [.ref (gX E + 101)] (102, R, M, L, F) (Cs (.inl none) (553, uR R 101 452, M, L, F)) := by
  refine CT.of ok_X3_init rfl (Nat.le_of_ble_eq_true rfl) ?_
  refine g_aload_n 0 dX3_init_0 rfl ?_
  refine g_oinit oi_X3_3 rfl (by omega) (Nat.le_of_ble_eq_true rfl) dX3_init_1 ?_
  refine g_aload_n 0 dX3_init_4 rfl ?_
  refine g_bipush dX3_init_5 (9 : Int32) (by decide) ?_
  refine g_newK rfl rfl cl_X3_9 rfl (fun k => hR 102 k (by omega)) (by omega) (by omega) dX3_init_7 ?_
  refine g_putR (cf := 1) pf_X3_11_X3 rfl (by decide : kd 101 = (0, 2)) rfl (by decide) rfl (show 101 < 103 by decide) rfl rfl rfl dX3_init_10 ?_
  refine g_iconst dX3_init_13 (0 : Int32) (by decide) ?_
  refine g_istore_n [(1, .int (0 : Int32)), (0, .ref (gX E + 101))] dX3_init_14 rfl (by decide) rfl ?_
  refine g_lv (lv' := [(0, .ref (gX E + 101)), (1, .int (nI 0))]) [1, 0] rfl ?_
  refine g_st (σ' := (103 + 50 * 0, RH R 0, M, L, F)) ?_ (g_room (k' := 50 * 9) (n' := 663 * 9) (by omega) (by omega) (i_X3L R M L F hR hM hL hd ⟨rfl, rfl⟩ 9 0 (by omega)))
  show (103, uprR R 101 0, M, L, F) = _
  rw [RH_0]
end CTOR
