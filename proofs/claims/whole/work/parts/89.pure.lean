/-! the law's loop -/
theorem lvl {s k : Int32} {P Q : Prop} {a b : Int32 × gV} (h1 : P ∧ a.1 = 1) (h2 : Q ∧ b.1 = 1) : (((s = k) → P) ∧ (¬ (s = k) → Q)) ∧ (if s = k then a else b).1 = 1 := by
  by_cases h : s = k
  · rw [if_pos h]
    exact ⟨⟨fun _ => h1.1, fun g => absurd h g⟩, h1.2⟩
  · rw [if_neg h]
    exact ⟨⟨fun g => absurd g h, fun _ => h2.1⟩, h2.2⟩
theorem law_step {N : Nat} {xs : Nat → Int32} {K28 : Int32 → gV → Int32 × gV} {PK28 : Int32 → gV → Prop} {x5 s : Int32} {B : Nat} (hB : B < 33000) (v1 : vp_in (x5 + (1 : Int32)) N) (v2 : vp_in (x5 + (2 : Int32)) N) (v3 : vp_in (x5 + (3 : Int32)) N) (v4 : vp_in (x5 + (4 : Int32)) N) (hK : ∀ u, J (B + 64) u → PK28 (x5 + 5) u ∧ (K28 (x5 + 5) u).1 = 1) {v : gV} (hJ : J B v) : ((((s = 0) → (p_L_law_308 N xs K28 PK28 x5 v)) ∧ (¬ (s = 0) → (((s = 1) → (p_L_law_388 N xs K28 PK28 x5 v)) ∧ (¬ (s = 1) → (((s = 2) → (p_L_law_444 N xs K28 PK28 x5 v)) ∧ (¬ (s = 2) → (((s = 3) → (p_L_law_536 N xs K28 PK28 x5 v)) ∧ (¬ (s = 3) → (((s = 4) → (p_L_law_592 N xs K28 PK28 x5 v)) ∧ (¬ (s = 4) → (((s = 5) → (p_L_law_674 N xs K28 PK28 x5 v)) ∧ (¬ (s = 5) → (((s = 6) → (p_L_law_742 N xs K28 PK28 x5 v)) ∧ (¬ (s = 6) → (((s = 7) → (p_L_law_798 N xs K28 PK28 x5 v)) ∧ (¬ (s = 7) → (((s = 8) → (p_L_law_854 N xs K28 PK28 x5 v)) ∧ (¬ (s = 8) → (((s = 9) → (p_L_law_934 N xs K28 PK28 x5 v)) ∧ (¬ (s = 9) → (((s = 10) → (p_L_law_990 N xs K28 PK28 x5 v)) ∧ (¬ (s = 10) → (((s = 11) → (p_L_law_1046 N xs K28 PK28 x5 v)) ∧ (¬ (s = 11) → (((s = 12) → (p_L_law_1059 N xs K28 PK28 x5 v)) ∧ (¬ (s = 12) → (((s = 13) → (p_L_law_1072 N xs K28 PK28 x5 v)) ∧ (¬ (s = 13) → (((s = 14) → (p_L_law_1085 N xs K28 PK28 x5 v)) ∧ (¬ (s = 14) → (((s = 15) → (p_L_law_1141 N xs K28 PK28 x5 v)) ∧ (¬ (s = 15) → (((s = 16) → (p_L_law_1197 N xs K28 PK28 x5 v)) ∧ (¬ (s = 16) → (((s = 17) → (p_L_law_1253 N xs K28 PK28 x5 v)) ∧ (¬ (s = 17) → (((s = 18) → (p_L_law_1309 N xs K28 PK28 x5 v)) ∧ (¬ (s = 18) → (((s = 19) → (p_L_law_1365 N xs K28 PK28 x5 v)) ∧ (¬ (s = 19) → (((s = 20) → (p_L_law_1421 N xs K28 PK28 x5 v)) ∧ (¬ (s = 20) → (((s = 21) → (p_L_law_1484 N xs K28 PK28 x5 v)) ∧ (¬ (s = 21) → (((s = 22) → (p_L_law_1497 N xs K28 PK28 x5 v)) ∧ (¬ (s = 22) → (((s = 23) → (p_L_law_1553 N xs K28 PK28 x5 v)) ∧ (¬ (s = 23) → (((s = 24) → (p_L_law_1609 N xs K28 PK28 x5 v)) ∧ (¬ (s = 24) → (((s = 25) → (p_L_law_1665 N xs K28 PK28 x5 v)) ∧ (¬ (s = 25) → (((s = 26) → (p_L_law_1721 N xs K28 PK28 x5 v)) ∧ (¬ (s = 26) → (((s = 27) → (p_L_law_1777 N xs K28 PK28 x5 v)) ∧ (¬ (s = 27) → (((s = 28) → (p_L_law_1845 N xs K28 PK28 x5 v)) ∧ (¬ (s = 28) → (((s = 29) → (p_L_law_1901 N xs K28 PK28 x5 v)) ∧ (¬ (s = 29) → (((s = 30) → (p_L_law_1957 N xs K28 PK28 x5 v)) ∧ (¬ (s = 30) → (((s = 31) → (p_L_law_1970 N xs K28 PK28 x5 v)) ∧ (¬ (s = 31) → (((s = 32) → (p_L_law_2026 N xs K28 PK28 x5 v)) ∧ (¬ (s = 32) → (((s = 33) → (p_L_law_2082 N xs K28 PK28 x5 v)) ∧ (¬ (s = 33) → (((s = 34) → (p_L_law_2138 N xs K28 PK28 x5 v)) ∧ (¬ (s = 34) → (((s = 35) → (p_L_law_2194 N xs K28 PK28 x5 v)) ∧ (¬ (s = 35) → (((s = 36) → (p_L_law_2208 N xs K28 PK28 x5 v)) ∧ (¬ (s = 36) → (((s = 37) → (p_L_law_2263 N xs K28 PK28 x5 v)) ∧ (¬ (s = 37) → (((s = 38) → (p_L_law_2318 N xs K28 PK28 x5 v)) ∧ (¬ (s = 38) → (((s = 39) → (p_L_law_2331 N xs K28 PK28 x5 v)) ∧ (¬ (s = 39) → (((s = 40) → (p_L_law_2399 N xs K28 PK28 x5 v)) ∧ (¬ (s = 40) → (((s = 41) → (p_L_law_2412 N xs K28 PK28 x5 v)) ∧ (¬ (s = 41) → (((s = 42) → (p_L_law_2468 N xs K28 PK28 x5 v)) ∧ (¬ (s = 42) → (((s = 43) → (p_L_law_2524 N xs K28 PK28 x5 v)) ∧ (¬ (s = 43) → (((s = 44) → (p_L_law_2537 N xs K28 PK28 x5 v)) ∧ (¬ (s = 44) → (((s = 45) → (p_L_law_2550 N xs K28 PK28 x5 v)) ∧ (¬ (s = 45) → (((s = 46) → (p_L_law_2618 N xs K28 PK28 x5 v)) ∧ (¬ (s = 46) → (((s = 47) → (p_L_law_2686 N xs K28 PK28 x5 v)) ∧ (¬ (s = 47) → (((s = 48) → (p_L_law_2742 N xs K28 PK28 x5 v)) ∧ (¬ (s = 48) → (((s = 49) → (p_L_law_2798 N xs K28 PK28 x5 v)) ∧ (¬ (s = 49) → (((s = 50) → (p_L_law_2863 N xs K28 PK28 x5 v)) ∧ (¬ (s = 50) → (((s = 51) → (p_L_law_2929 N xs K28 PK28 x5 v)) ∧ (¬ (s = 51) → (((s = 52) → (p_L_law_2942 N xs K28 PK28 x5 v)) ∧ (¬ (s = 52) → (((s = 53) → (p_L_law_2998 N xs K28 PK28 x5 v)) ∧ (¬ (s = 53) → (((s = 54) → (p_L_law_3054 N xs K28 PK28 x5 v)) ∧ (¬ (s = 54) → (((s = 55) → (p_L_law_3110 N xs K28 PK28 x5 v)) ∧ (¬ (s = 55) → (((s = 56) → (p_L_law_3168 N xs K28 PK28 x5 v)) ∧ (¬ (s = 56) → (((s = 57) → (p_L_law_3212 N xs K28 PK28 x5 v)) ∧ (¬ (s = 57) → (((s = 58) → (p_L_law_3256 N xs K28 PK28 x5 v)) ∧ (¬ (s = 58) → (((s = 59) → (p_L_law_3300 N xs K28 PK28 x5 v)) ∧ (¬ (s = 59) → (((s = 60) → (p_L_law_3344 N xs K28 PK28 x5 v)) ∧ (¬ (s = 60) → (((s = 61) → (p_L_law_3357 N xs K28 PK28 x5 v)) ∧ (¬ (s = 61) → (p_L_law_3401 N xs K28 PK28 x5 v)))))))))))))))))))))))))))))))))))))))))))))))))))))))))))))))))))))))))))))))))))))))))))))))))))))))))))))))))))))))))))))) ∧ ((if s = 0 then (f_L_law_308 N xs K28 x5 v) else (if s = 1 then (f_L_law_388 N xs K28 x5 v) else (if s = 2 then (f_L_law_444 N xs K28 x5 v) else (if s = 3 then (f_L_law_536 N xs K28 x5 v) else (if s = 4 then (f_L_law_592 N xs K28 x5 v) else (if s = 5 then (f_L_law_674 N xs K28 x5 v) else (if s = 6 then (f_L_law_742 N xs K28 x5 v) else (if s = 7 then (f_L_law_798 N xs K28 x5 v) else (if s = 8 then (f_L_law_854 N xs K28 x5 v) else (if s = 9 then (f_L_law_934 N xs K28 x5 v) else (if s = 10 then (f_L_law_990 N xs K28 x5 v) else (if s = 11 then (f_L_law_1046 N xs K28 x5 v) else (if s = 12 then (f_L_law_1059 N xs K28 x5 v) else (if s = 13 then (f_L_law_1072 N xs K28 x5 v) else (if s = 14 then (f_L_law_1085 N xs K28 x5 v) else (if s = 15 then (f_L_law_1141 N xs K28 x5 v) else (if s = 16 then (f_L_law_1197 N xs K28 x5 v) else (if s = 17 then (f_L_law_1253 N xs K28 x5 v) else (if s = 18 then (f_L_law_1309 N xs K28 x5 v) else (if s = 19 then (f_L_law_1365 N xs K28 x5 v) else (if s = 20 then (f_L_law_1421 N xs K28 x5 v) else (if s = 21 then (f_L_law_1484 N xs K28 x5 v) else (if s = 22 then (f_L_law_1497 N xs K28 x5 v) else (if s = 23 then (f_L_law_1553 N xs K28 x5 v) else (if s = 24 then (f_L_law_1609 N xs K28 x5 v) else (if s = 25 then (f_L_law_1665 N xs K28 x5 v) else (if s = 26 then (f_L_law_1721 N xs K28 x5 v) else (if s = 27 then (f_L_law_1777 N xs K28 x5 v) else (if s = 28 then (f_L_law_1845 N xs K28 x5 v) else (if s = 29 then (f_L_law_1901 N xs K28 x5 v) else (if s = 30 then (f_L_law_1957 N xs K28 x5 v) else (if s = 31 then (f_L_law_1970 N xs K28 x5 v) else (if s = 32 then (f_L_law_2026 N xs K28 x5 v) else (if s = 33 then (f_L_law_2082 N xs K28 x5 v) else (if s = 34 then (f_L_law_2138 N xs K28 x5 v) else (if s = 35 then (f_L_law_2194 N xs K28 x5 v) else (if s = 36 then (f_L_law_2208 N xs K28 x5 v) else (if s = 37 then (f_L_law_2263 N xs K28 x5 v) else (if s = 38 then (f_L_law_2318 N xs K28 x5 v) else (if s = 39 then (f_L_law_2331 N xs K28 x5 v) else (if s = 40 then (f_L_law_2399 N xs K28 x5 v) else (if s = 41 then (f_L_law_2412 N xs K28 x5 v) else (if s = 42 then (f_L_law_2468 N xs K28 x5 v) else (if s = 43 then (f_L_law_2524 N xs K28 x5 v) else (if s = 44 then (f_L_law_2537 N xs K28 x5 v) else (if s = 45 then (f_L_law_2550 N xs K28 x5 v) else (if s = 46 then (f_L_law_2618 N xs K28 x5 v) else (if s = 47 then (f_L_law_2686 N xs K28 x5 v) else (if s = 48 then (f_L_law_2742 N xs K28 x5 v) else (if s = 49 then (f_L_law_2798 N xs K28 x5 v) else (if s = 50 then (f_L_law_2863 N xs K28 x5 v) else (if s = 51 then (f_L_law_2929 N xs K28 x5 v) else (if s = 52 then (f_L_law_2942 N xs K28 x5 v) else (if s = 53 then (f_L_law_2998 N xs K28 x5 v) else (if s = 54 then (f_L_law_3054 N xs K28 x5 v) else (if s = 55 then (f_L_law_3110 N xs K28 x5 v) else (if s = 56 then (f_L_law_3168 N xs K28 x5 v) else (if s = 57 then (f_L_law_3212 N xs K28 x5 v) else (if s = 58 then (f_L_law_3256 N xs K28 x5 v) else (if s = 59 then (f_L_law_3300 N xs K28 x5 v) else (if s = 60 then (f_L_law_3344 N xs K28 x5 v) else (if s = 61 then (f_L_law_3357 N xs K28 x5 v) else (f_L_law_3401 N xs K28 x5 v)))))))))))))))))))))))))))))))))))))))))))))))))))))))))))))))).1 = 1 := by
  refine lvl (op_00 hB v1 v2 v3 v4 hK hJ) ?_
  refine lvl (op_01 hB v1 v2 v3 v4 hK hJ) ?_
  refine lvl (op_02 hB v1 v2 v3 v4 hK hJ) ?_
  refine lvl (op_03 hB v1 v2 v3 v4 hK hJ) ?_
  refine lvl (op_04 hB v1 v2 v3 v4 hK hJ) ?_
  refine lvl (op_05 hB v1 v2 v3 v4 hK hJ) ?_
  refine lvl (op_06 hB v1 v2 v3 v4 hK hJ) ?_
  refine lvl (op_07 hB v1 v2 v3 v4 hK hJ) ?_
  refine lvl (op_08 hB v1 v2 v3 v4 hK hJ) ?_
  refine lvl (op_09 hB v1 v2 v3 v4 hK hJ) ?_
  refine lvl (op_10 hB v1 v2 v3 v4 hK hJ) ?_
  refine lvl (op_11 hB v1 v2 v3 v4 hK hJ) ?_
  refine lvl (op_12 hB v1 v2 v3 v4 hK hJ) ?_
  refine lvl (op_13 hB v1 v2 v3 v4 hK hJ) ?_
  refine lvl (op_14 hB v1 v2 v3 v4 hK hJ) ?_
  refine lvl (op_15 hB v1 v2 v3 v4 hK hJ) ?_
  refine lvl (op_16 hB v1 v2 v3 v4 hK hJ) ?_
  refine lvl (op_17 hB v1 v2 v3 v4 hK hJ) ?_
  refine lvl (op_18 hB v1 v2 v3 v4 hK hJ) ?_
  refine lvl (op_19 hB v1 v2 v3 v4 hK hJ) ?_
  refine lvl (op_20 hB v1 v2 v3 v4 hK hJ) ?_
  refine lvl (op_21 hB v1 v2 v3 v4 hK hJ) ?_
  refine lvl (op_22 hB v1 v2 v3 v4 hK hJ) ?_
  refine lvl (op_23 hB v1 v2 v3 v4 hK hJ) ?_
  refine lvl (op_24 hB v1 v2 v3 v4 hK hJ) ?_
  refine lvl (op_25 hB v1 v2 v3 v4 hK hJ) ?_
  refine lvl (op_26 hB v1 v2 v3 v4 hK hJ) ?_
  refine lvl (op_27 hB v1 v2 v3 v4 hK hJ) ?_
  refine lvl (op_28 hB v1 v2 v3 v4 hK hJ) ?_
  refine lvl (op_29 hB v1 v2 v3 v4 hK hJ) ?_
  refine lvl (op_30 hB v1 v2 v3 v4 hK hJ) ?_
  refine lvl (op_31 hB v1 v2 v3 v4 hK hJ) ?_
  refine lvl (op_32 hB v1 v2 v3 v4 hK hJ) ?_
  refine lvl (op_33 hB v1 v2 v3 v4 hK hJ) ?_
  refine lvl (op_34 hB v1 v2 v3 v4 hK hJ) ?_
  refine lvl (op_35 hB v1 v2 v3 v4 hK hJ) ?_
  refine lvl (op_36 hB v1 v2 v3 v4 hK hJ) ?_
  refine lvl (op_37 hB v1 v2 v3 v4 hK hJ) ?_
  refine lvl (op_38 hB v1 v2 v3 v4 hK hJ) ?_
  refine lvl (op_39 hB v1 v2 v3 v4 hK hJ) ?_
  refine lvl (op_40 hB v1 v2 v3 v4 hK hJ) ?_
  refine lvl (op_41 hB v1 v2 v3 v4 hK hJ) ?_
  refine lvl (op_42 hB v1 v2 v3 v4 hK hJ) ?_
  refine lvl (op_43 hB v1 v2 v3 v4 hK hJ) ?_
  refine lvl (op_44 hB v1 v2 v3 v4 hK hJ) ?_
  refine lvl (op_45 hB v1 v2 v3 v4 hK hJ) ?_
  refine lvl (op_46 hB v1 v2 v3 v4 hK hJ) ?_
  refine lvl (op_47 hB v1 v2 v3 v4 hK hJ) ?_
  refine lvl (op_48 hB v1 v2 v3 v4 hK hJ) ?_
  refine lvl (op_49 hB v1 v2 v3 v4 hK hJ) ?_
  refine lvl (op_50 hB v1 v2 v3 v4 hK hJ) ?_
  refine lvl (op_51 hB v1 v2 v3 v4 hK hJ) ?_
  refine lvl (op_52 hB v1 v2 v3 v4 hK hJ) ?_
  refine lvl (op_53 hB v1 v2 v3 v4 hK hJ) ?_
  refine lvl (op_54 hB v1 v2 v3 v4 hK hJ) ?_
  refine lvl (op_55 hB v1 v2 v3 v4 hK hJ) ?_
  refine lvl (op_56 hB v1 v2 v3 v4 hK hJ) ?_
  refine lvl (op_57 hB v1 v2 v3 v4 hK hJ) ?_
  refine lvl (op_58 hB v1 v2 v3 v4 hK hJ) ?_
  refine lvl (op_59 hB v1 v2 v3 v4 hK hJ) ?_
  refine lvl (op_60 hB v1 v2 v3 v4 hK hJ) ?_
  refine lvl (op_61 hB v1 v2 v3 v4 hK hJ) ?_
  rw [p_L_law_3401, f_L_law_3401]
  exact hK v (hJ.mono (by omega))
theorem law_loop {N : Nat} (hN : N ≤ 2560) (xs : Nat → Int32) : ∀ (m k fuel : Nat) (v : gV), k + m = 513 → m < fuel → J (64 * k) v → p_L_law_28 N xs fuel (nI (5 * k)) v ∧ (f_L_law_28 N xs fuel (nI (5 * k)) v).1 = 1 := by
  intro m
  induction m with
  | zero =>
    intro k fuel v hk hf hJ
    obtain ⟨fuel, rfl⟩ := fuel_s hf
    have g : (nI N) - (5 : Int32) < nI (5 * k) := by
      have e5 : (5 : Int32).toInt = 5 := by decide +kernel
      have eN := tI (n := N) (by omega)
      rw [i_lt, ti_sub (by omega) (by omega), e5, eN, tI (by omega)]
      omega
    rw [p_L_law_28, f_L_law_28, if_pos g]
    exact ⟨⟨fun _ => trivial, fun g' => absurd g g'⟩, rfl⟩
  | succ m ih =>
    intro k fuel v hk hf hJ
    obtain ⟨fuel, rfl⟩ := fuel_s hf
    by_cases g : (nI N) - (5 : Int32) < nI (5 * k)
    · rw [p_L_law_28, f_L_law_28, if_pos g]
      exact ⟨⟨fun _ => trivial, fun g' => absurd g g'⟩, rfl⟩
    · have hlt : 5 * k + 5 ≤ N := by
        have e5 : (5 : Int32).toInt = 5 := by decide +kernel
        have eN := tI (n := N) (by omega)
        rw [i_lt, ti_sub (by omega) (by omega), e5, eN, tI (by omega)] at g
        omega
      have vs : ∀ j, j < 5 → vp_in (nI (5 * k + j)) N := fun j hj => vi_n (by omega) (by omega)
      have e0 := vs 0 (by omega)
      rw [Nat.add_zero] at e0
      have main := law_step (N := N) (xs := xs) (K28 := fun x5 v => f_L_law_28 N xs fuel x5 v) (PK28 := fun x5 v => p_L_law_28 N xs fuel x5 v) (x5 := nI (5 * k)) (s := (xs (nI (5 * k)).toNatClampNeg) &&& (63 : Int32)) (B := 64 * k) (by omega) (by rw [li_1, nI_add]; exact vs 1 (by omega)) (by rw [li_2, nI_add]; exact vs 2 (by omega)) (by rw [li_3, nI_add]; exact vs 3 (by omega)) (by rw [li_4, nI_add]; exact vs 4 (by omega)) (fun u hu => by
        have h := ih (k + 1) fuel u (by omega) (by omega) (by rw [show 64 * (k + 1) = 64 * k + 64 by omega]; exact hu)
        have e : nI (5 * k) + (5 : Int32) = nI (5 * (k + 1)) := by
          rw [li_5, nI_add, show 5 * k + 5 = 5 * (k + 1) by omega]
        show p_L_law_28 N xs fuel (nI (5 * k) + 5) u ∧ (f_L_law_28 N xs fuel (nI (5 * k) + 5) u).1 = 1
        rw [e]
        exact h) hJ
      rw [p_L_law_28, f_L_law_28, if_neg g]
      exact ⟨⟨fun g' => absurd g' g, fun _ => ⟨e0, main.1⟩⟩, main.2⟩
/-! the beginning -/
theorem v0_z {j k : Nat} (h1 : ¬ (j = 0 ∧ (k = 6 ∨ k = 7))) (h2 : ¬ (j = 559 ∧ (k = 8 ∨ k = 9))) : v0.1 j k = nI 0 := if_neg fun g => g.elim h1 h2
theorem v0_m {j k : Nat} (h : (j = 0 ∧ (k = 6 ∨ k = 7)) ∨ (j = 559 ∧ (k = 8 ∨ k = 9))) : v0.1 j k = (-1 : Int32) := if_pos h
theorem J_v0 : J 0 v0 := by
  have z0 : (nI 0).toInt = 0 := by decide +kernel
  have zb : ∀ j k, 1 ≤ j → j < 559 → v0.1 j k = nI 0 := fun j k a b => v0_z (by omega) (by omega)
  have zw : ∀ k, v0.1 560 k = nI 0 := fun k => v0_z (by omega) (by omega)
  refine ⟨⟨0, 0, 0, 0, ⟨zw 0, zw 1, zw 2, zw 3, by omega, by omega, by omega, by omega⟩, ?_, ⟨fun k hk => absurd hk (Nat.not_lt_zero _), fun j k _ hk => absurd hk (Nat.not_lt_zero _)⟩, ⟨fun k hk => absurd hk (Nat.not_lt_zero _), fun j k _ hk => absurd hk (Nat.not_lt_zero _)⟩, fun k hk => absurd hk (Nat.not_lt_zero _), fun p d _ _ => ?_, fun k hk => absurd hk (Nat.not_lt_zero _), ?_, fun k hk => absurd hk (Nat.not_lt_zero _), fun k hk => absurd hk (Nat.not_lt_zero _), fun k hk => absurd hk (Nat.not_lt_zero _), fun p d hp _ => ?_, fun k hk => absurd hk (Nat.not_lt_zero _), ⟨?_, fun k hk => absurd hk (Nat.not_lt_zero _)⟩, fun k hk => ?_⟩, ⟨0, 0, by omega, by omega, zb 101 1 (by omega) (by omega), zb 101 2 (by omega) (by omega), v0_z (by omega) (by omega), fun i hi => absurd hi (Nat.not_lt_zero _)⟩, Or.inl ⟨v0_z (by omega) (by omega), v0_z (by omega) (by omega)⟩, ⟨0, by omega, zb 554 3 (by omega) (by omega), v0_z (by omega) (by omega), fun i hi => absurd hi (Nat.not_lt_zero _)⟩, ⟨0, by omega, zb 557 3 (by omega) (by omega), v0_z (by omega) (by omega), fun i hi => absurd hi (Nat.not_lt_zero _)⟩, ?_, ?_⟩
  · unfold WFs
    rw [zw 4, zw 5, zw 6, z0]
    omega
  · rw [zw, z0]
    omega
  · exact ⟨zb _ _ (by omega) (by omega), (zb _ _ (by omega) (by omega)).trans (zw 4).symm, zb _ _ (by omega) (by omega), (zb _ _ (by omega) (by omega)).trans (zw 5).symm, zb _ _ (by omega) (by omega), zb _ _ (by omega) (by omega), (zb _ _ (by omega) (by omega)).trans (zw 6).symm, (zb _ _ (by omega) (by omega)).trans (zw 7).symm⟩
  · exact (zb _ _ (by omega) (by omega)).trans (zw _).symm
  · rw [zb 1 6 (by omega) (by omega), zb 1 7 (by omega) (by omega), zb 1 8 (by omega) (by omega), zb 1 9 (by omega) (by omega), zb 1 10 (by omega) (by omega), zb 1 11 (by omega) (by omega)]
    decide +kernel
  · rw [zb (1 + 13) k (by omega) (by omega)]
    decide +kernel
  · exact (v0_m (Or.inl ⟨rfl, Or.inl rfl⟩)).trans (v0_m (Or.inr ⟨rfl, Or.inl rfl⟩)).symm
  · exact (v0_m (Or.inl ⟨rfl, Or.inr rfl⟩)).trans (v0_m (Or.inr ⟨rfl, Or.inr rfl⟩)).symm
theorem whole_pure (N : Nat) (hN : N ≤ 2560) (xs : Nat → Int32) : p_L_law_28 N xs 514 0 v0 ∧ (f_L_law_28 N xs 514 0 v0).1 = 1 := law_loop hN xs 513 0 514 v0 rfl (by omega) J_v0
