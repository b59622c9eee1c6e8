/-! isConsistent: true, always -/
theorem BR_sc {B np nc nt no : Nat} {v u : gV} {w : Nat → Int32} (h : Sc v u) (hb : BR B v 1 w np nc nt no) : BR B u 1 w np nc nt no := BR_copy h.2.2 hb
theorem K_balanced {B np nc nt no : Nat} {v : gV} {w : Nat → Int32} (h : BR B v 1 w np nc nt no) : p_X1_isBalanced 1 v ∧ f_X1_isBalanced 1 v = 1 := by
  have hb := h.2.2.2.2.2.2.2.2.2.2.2.2.2.1.1
  have q1 : p_X1_isBalanced_36 1 (1 : Int32) v := And.intro (Or.inr rfl) trivial
  have q0 : p_X1_isBalanced_36 1 (0 : Int32) v := And.intro (Or.inl rfl) trivial
  constructor
  · show p_X1_isBalanced_0 1 v
    rw [p_X1_isBalanced_0]
    exact ⟨fun _ => q1, fun _ => q0⟩
  · show f_X1_isBalanced_0 1 v = 1
    rw [f_X1_isBalanced_0, if_pos hb]
    rfl
theorem L_keeps {B np nc nt no : Nat} {v : gV} {w : Nat → Int32} (h : BR B v 1 w np nc nt no) : ∀ (m i fuel : Nat), i + m = nt → m < fuel → p_X1_keepsCapacities_2 1 fuel (nI i) v ∧ f_X1_keepsCapacities_2 1 fuel (nI i) v = 1 := by
  have n6 := h.1.2.2.2.2.2.1
  have n7 := h.1.2.2.2.2.2.2.1
  have wc := h.2.2.2.1
  have wt := h.2.2.2.2.1
  have bs := h.2.2.2.2.2.2.2.1
  have bc := h.2.2.2.2.2.2.2.2.2.1
  have bt := h.2.2.2.2.2.2.2.2.2.2.1
  have bk := h.2.2.2.2.2.2.2.2.2.2.2.2.2.1
  have s6 : v.1 (1 + 30) 6 = nI nt := bs.2.2.2.2.1
  intro m
  induction m with
  | zero =>
    intro i fuel hk hf
    obtain ⟨f, rfl⟩ := fuel_s hf
    have hle : nI nt ≤ nI i := nI_le (by omega) (by omega)
    rw [p_X1_keepsCapacities_2, f_X1_keepsCapacities_2, s6, if_pos hle]
    exact ⟨⟨fun _ => trivial, fun h => absurd hle h⟩, rfl⟩
  | succ m ih =>
    intro i fuel hk hf
    obtain ⟨f, rfl⟩ := fuel_s hf
    have hle : ¬ nI nt ≤ nI i := nI_ge (by omega) (by omega)
    have hv : vp_in (nI i) 4 := vi_n (by omega) (by omega)
    obtain ⟨c1, c2⟩ := K_coinsOf (t := i) n6 bs bc wc (by omega)
    obtain ⟨i1, i2⟩ := ih (i + 1) f (by omega) (by omega)
    have h1 := bk.2 i (by omega)
    have h2 : 0 ≤ sI (fun j => prt w j i) nc := sI_nn fun j hj => (wc.1 j hj).2.2.2.2.2.2.2.2.2.2.1 i (by omega)
    have h3 := (wt i (by omega)).2.2.2.2
    have e33 : v.1 (1 + 33) (nI i).toNatClampNeg = w (216 + 4 * i + 2) := by
      rw [cl_n (by omega)]
      exact (bt i (by omega)).2.2
    have e34 : v.1 (1 + 34) (nI i).toNatClampNeg = v.1 (1 + 34) i := by rw [cl_n (by omega)]
    have hc : v.1 (1 + 33) (nI i).toNatClampNeg + f_X2_coinsOf 1 (nI i) v ≤ v.1 (1 + 34) (nI i).toNatClampNeg := by
      rw [e33, e34, i_le, ti_add (by omega) (by omega), c2]
      exact h1.2
    rw [p_X1_keepsCapacities_2, f_X1_keepsCapacities_2, s6, if_neg hle, if_pos hc, nI_1]
    exact ⟨⟨fun h => absurd h hle, fun _ => ⟨hv, c1, hv, fun _ => i1, fun h => absurd hc h⟩⟩, i2⟩
theorem L_layers {B np nc nt no : Nat} {w : Nat → Int32} : ∀ (m i fuel : Nat) (v : gV), BR B v 1 w np nc nt no → i + m = 31 → m < fuel → p_X1_layersAgree_2 1 fuel (nI i) v ∧ ∃ u, f_X1_layersAgree_2 1 fuel (nI i) v = (1, u) ∧ Sc v u := by
  intro m
  induction m with
  | zero =>
    intro i fuel v h hk hf
    obtain ⟨f, rfl⟩ := fuel_s hf
    have hlt : (30 : Int32) < nI i := by
      show nI 30 < nI i
      rw [lt_n (by omega) (by omega)]
      omega
    rw [p_X1_layersAgree_2, f_X1_layersAgree_2, if_pos hlt]
    exact ⟨⟨fun _ => trivial, fun h => absurd hlt h⟩, v, rfl, Sc.refl v⟩
  | succ m ih =>
    intro i fuel v h hk hf
    obtain ⟨f, rfl⟩ := fuel_s hf
    have hlt : ¬ (30 : Int32) < nI i := by
      show ¬ nI 30 < nI i
      rw [lt_n (by omega) (by omega)]
      omega
    obtain ⟨r1, L, r2⟩ := K_countByRuns h (A := i) (by omega)
    have s1 : Sc v (vRow v 36 L) := Sc_row (Sc.refl v) _ (Or.inl rfl)
    have h2 := BR_sc s1 h
    obtain ⟨c1, L2, P, c2⟩ := K_countByCoins h2 (A := i) (by omega)
    have s2 : Sc (vRow v 36 L) (vRow (vRow (vRow v 36 L) 36 L2) 37 P) := Sc_row (Sc_row (Sc.refl _) _ (Or.inl rfl)) _ (Or.inr (Or.inl rfl))
    obtain ⟨i1, u, i2, i3⟩ := ih (i + 1) f _ (BR_sc s2 h2) (by omega) (by omega)
    rw [p_X1_layersAgree_2, f_X1_layersAgree_2, if_neg hlt]
    simp only [f_X1_layersAgree_16, p_X1_layersAgree_16, f_X1_layersAgree_24, p_X1_layersAgree_24, r2, c2, nI_1, if_true]
    exact ⟨⟨fun h => absurd h hlt, fun _ => ⟨r1, c1, fun _ => i1, fun h => absurd trivial h⟩⟩, u, i2, (s1.trans s2).trans i3⟩
theorem K_outAgree {B np nc nt no : Nat} {v : gV} {w : Nat → Int32} (h : BR B v 1 w np nc nt no) : p_X1_outcomesAgree 1 v ∧ ∃ u, f_X1_outcomesAgree 1 v = (1, u) ∧ Sc v u := by
  have hw := h.1
  have n5 := hw.2.2.2.2.1
  have wp := h.2.2.1
  have bp := h.2.2.2.2.2.2.2.2.1
  have s1 : v.1 2 1 = nI np := h.2.2.2.2.2.2.2.1.1
  have s7 : v.1 1 5 = w 6 := h.2.2.2.2.2.2.2.1.2.2.2.2.2.2.1
  obtain ⟨m1, m2⟩ := K_most s1 n5 bp
  obtain ⟨b1, b2⟩ := most_b wp n5 np (Nat.le_refl _)
  have hh : ∃ y : Int32, most w np / (2 : Int32) = y ∧ 0 ≤ y.toInt := by
    refine ⟨_, rfl, ?_⟩
    rw [ti_div (by decide +kernel)]
    exact Int.tdiv_nonneg b1 (by decide +kernel)
  obtain ⟨y, hy, hy0⟩ := hh
  obtain ⟨t1, r', t2⟩ := K_byTable s1 n5 wp bp (M := y.toInt.toNat + 1) hy0 (by omega)
  have s1' : (vLR v r').1 2 1 = nI np := s1
  have bp' : BRp (vLR v r') 1 w np := bp
  obtain ⟨q1, q2⟩ := K_X5_bySets s1' n5 wp bp' (M := y.toInt.toNat + 1) (y := y) (by omega)
  have s7' : (vLR v r').1 1 5 = w 6 := s7
  have p1 : p_X1_outcomesAgree_47 1 (1 : Int32) (vLR v r') := And.intro (Or.inr rfl) trivial
  have p0 : p_X1_outcomesAgree_47 1 (0 : Int32) (vLR v r') := And.intro (Or.inl rfl) trivial
  have hc : lg_cmp (out w np (y.toInt.toNat + 1)) (out w np (y.toInt.toNat + 1)) = 0 := (lg_cmp_eq _ _).mpr rfl
  refine ⟨?_, vLR v r', ?_, Sc.one rfl⟩
  · show p_X1_outcomesAgree_0 1 v
    rw [p_X1_outcomesAgree_0, s7, m2, hy, t2]
    refine ⟨m1, t1, ?_⟩
    rw [p_X1_outcomesAgree_26, s7', q2]
    exact ⟨q1, fun _ => p1, fun _ => p0⟩
  · show f_X1_outcomesAgree_0 1 v = _
    rw [f_X1_outcomesAgree_0, s7, m2, hy, t2]
    rw [f_X1_outcomesAgree_26, s7', q2, if_pos hc]
    rfl
theorem K_covAgree {B np nc nt no : Nat} {v : gV} {w : Nat → Int32} (h : BR B v 1 w np nc nt no) : p_X1_coversAgree 1 v ∧ ∃ u, f_X1_coversAgree 1 v = (1, u) ∧ Sc v u := by
  have n8 := h.1.2.2.2.2.2.2.2
  have wo := h.2.2.2.2.2.2.1
  have bo := h.2.2.2.2.2.2.2.2.2.2.2.2.1
  have s : v.1 46 4 = nI no := h.2.2.2.2.2.2.2.1.2.2.2.2.2.1
  obtain ⟨d1, q, r', d2, d3⟩ := K_byDays (a := 0) (e := 9) s n8 wo bo (by omega) (by omega)
  have sc : Sc v (vRow v 50 r') := Sc_row (Sc.refl v) _ (Or.inr (Or.inr rfl))
  have h2 := BR_sc sc h
  have bo2 := h2.2.2.2.2.2.2.2.2.2.2.2.2.1
  have s2 : (vRow v 50 r').1 46 4 = nI no := h2.2.2.2.2.2.2.2.1.2.2.2.2.2.1
  obtain ⟨e1, q2, e2, e3⟩ := K_bySetsC (a := 0) (e := 9) s2 n8 wo bo2 (by omega) (by omega)
  have hq := bestW_uniq n8 wo d2 e2
  subst hq
  have d1' : p_X4_cheapestByDays 1 (0 : Int32) (9 : Int32) v := d1
  have d3' : f_X4_cheapestByDays 1 (0 : Int32) (9 : Int32) v = (nI q, vRow v 50 r') := d3
  have e1' : p_X4_cheapestBySets 1 (0 : Int32) (9 : Int32) (vRow v 50 r') := e1
  have e3' : f_X4_cheapestBySets 1 (0 : Int32) (9 : Int32) (vRow v 50 r') = nI q := e3
  have p1 : p_X1_coversAgree_28 1 (1 : Int32) (vRow v 50 r') := And.intro (Or.inr rfl) trivial
  have p0 : p_X1_coversAgree_28 1 (0 : Int32) (vRow v 50 r') := And.intro (Or.inl rfl) trivial
  refine ⟨?_, vRow v 50 r', ?_, sc⟩
  · show p_X1_coversAgree_0 1 v
    rw [p_X1_coversAgree_0, d3']
    refine ⟨d1', ?_⟩
    rw [p_X1_coversAgree_10, e3']
    exact ⟨e1', fun _ => p1, fun _ => p0⟩
  · show f_X1_coversAgree_0 1 v = _
    rw [f_X1_coversAgree_0, d3']
    rw [f_X1_coversAgree_10, e3', if_pos rfl]
    rfl
theorem K_consistent {B np nc nt no : Nat} {v : gV} {w : Nat → Int32} (hB : B < 40000) (h : BR B v 1 w np nc nt no) : p_X11_isConsistent v ∧ ∃ u, f_X11_isConsistent v = (1, u) ∧ Sc v u := by
  have n10' : ¬ (1 : Int32) = 0 := n10
  obtain ⟨a1, a2⟩ := K_balanced h
  obtain ⟨b1, b2⟩ := L_keeps h nt 0 5000 (by omega) (by have := h.1.2.2.2.2.2.2.1; omega)
  have b1' : p_X1_keepsCapacities 1 v := b1
  have b2' : f_X1_keepsCapacities 1 v = 1 := b2
  obtain ⟨c1, u1, c2, c3⟩ := L_layers 30 1 5000 v h (by omega) (by omega)
  have c1' : p_X1_layersAgree 1 v := c1
  have c2' : f_X1_layersAgree 1 v = (1, u1) := c2
  have h1 := BR_sc c3 h
  obtain ⟨d1, u2, d2, d3⟩ := K_outAgree h1
  have h2 := BR_sc d3 h1
  have hs := h2.2.1
  have hb := WFe_b hB h2.2.2.2.2.2.1
  have be := h2.2.2.2.2.2.2.2.2.2.2.2.1
  have s7 : u2.1 1 5 = w 6 := h2.2.2.2.2.2.2.2.1.2.2.2.2.2.2.1
  obtain ⟨L, hL5, hL⟩ := lat_n hs
  have hl : f_X1_latestPeriod 1 u2 = nI L := by rw [F_X1_latest hs s7, hL]
  obtain ⟨e1, e2⟩ := L_agreeP be hb hL5 (L + 1) 0 5000 (by omega) (by omega)
  have e1' : p_X1_projectionsAgree 1 u2 := by
    show p_X1_latestPeriod 1 u2 ∧ p_X1_projectionsAgree_7 1 5000 (f_X1_latestPeriod 1 u2) (0 : Int32) u2
    rw [hl]
    exact ⟨P_X1_latest u2, e1⟩
  have e2' : f_X1_projectionsAgree 1 u2 = 1 := by
    show f_X1_projectionsAgree_7 1 5000 (f_X1_latestPeriod 1 u2) (0 : Int32) u2 = 1
    rw [hl]
    exact e2
  obtain ⟨g1, u3, g2, g3⟩ := K_covAgree h2
  have q0 : ∀ u, p_X11_isConsistent_64 u := fun u => And.intro (Or.inl rfl) trivial
  have q1 : ∀ u, p_X11_isConsistent_65 (1 : Int32) u := fun u => And.intro (Or.inr rfl) trivial
  refine ⟨?_, u3, ?_, (c3.trans d3).trans g3⟩
  · show p_X11_isConsistent_0 v
    rw [p_X11_isConsistent_0, a2, b2', c2']
    refine ⟨a1, fun _ => q0 v, fun _ => ⟨b1', fun _ => q0 v, fun _ => ⟨c1', ?_⟩⟩⟩
    rw [p_X11_isConsistent_27, d2]
    refine ⟨fun _ => q0 u1, fun _ => ⟨d1, ?_⟩⟩
    rw [p_X11_isConsistent_37, e2', g2]
    refine ⟨fun _ => q0 u2, fun _ => ⟨e1', fun _ => q0 u2, fun _ => ⟨g1, ?_⟩⟩⟩
    rw [p_X11_isConsistent_57]
    exact ⟨fun _ => q0 u3, fun _ => q1 u3⟩
  · show f_X11_isConsistent_0 v = _
    rw [f_X11_isConsistent_0, a2, b2', c2', if_neg n10', if_neg n10']
    rw [f_X11_isConsistent_27, d2, if_neg n10']
    rw [f_X11_isConsistent_37, e2', g2, if_neg n10', if_neg n10']
    rw [f_X11_isConsistent_57, if_neg n10']
    rfl
theorem K_consistent12 (u : gV) : p_X12_isConsistent u ∧ f_X12_isConsistent u = (1, thr u (nI 0)) := by
  have h := F_plain (1 : Int32) u
  constructor
  · show p_X12_plain (1 : Int32) u ∧ p_X12_isConsistent_5 (f_X12_plain (1 : Int32) u).1 (f_X12_plain (1 : Int32) u).2
    rw [h]
    exact ⟨P_plain _ _, fun _ => And.intro (Or.inr rfl) trivial, fun _ => And.intro (Or.inl rfl) trivial⟩
  · show f_X12_isConsistent_5 (f_X12_plain (1 : Int32) u).1 (f_X12_plain (1 : Int32) u).2 = _
    rw [h]
    rfl
