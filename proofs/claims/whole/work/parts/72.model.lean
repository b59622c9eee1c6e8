/-! the reference's own methods, in closed form: w is its row of 300 ints (cell 560) -/
theorem n10 : ¬ nI 1 = nI 0 := by decide +kernel
theorem bz (c : Bool) : ((if c = true then nI 1 else nI 0) = nI 0) ↔ c = false := by
  cases c with
  | true => exact ⟨fun h => absurd h n10, fun h => by cases h⟩
  | false => exact ⟨fun _ => rfl, fun _ => rfl⟩
theorem F_X12_in (x l m : Int32) (v : gV) : f_X12_in x l m v = if inb x l m = true then nI 1 else nI 0 := by
  have hi := @inb_t x l m
  simp only [f_X12_in_15, f_X12_in_14, f_X12_in_0, f_X12_in, li_0, li_1, li_2, li_3, li_4, li_5, li_6, li_7, li_8, li_9, li_10, li_11, li_12, li_29, li_30, li_32, li_33, li_35, li_42, li_43, li_45, li_47, li_48, li_50, li_57, li_58, li_59, li_60, li_61, li_63, li_64, li_67, li_68, li_72, li_78, li_79, li_80, li_97, li_99, li_100, li_101, li_102, li_103, li_105, li_108, li_109, li_110, li_111, li_112, li_114, li_115, li_116, li_117, li_118, li_119, li_120, li_121, li_126, li_216, li_232, li_240, li_264, li_300, li_1000, li_1000000, li_2147483647]
  by_cases h1 : x < l
  · rw [if_pos h1, if_neg (by rw [hi]; rw [i_lt] at h1; omega)]
  · by_cases h2 : m < x
    · rw [if_neg h1, if_pos h2, if_neg (by rw [hi]; rw [i_lt] at h2; omega)]
    · rw [if_neg h1, if_neg h2, if_pos (by rw [hi]; rw [i_lt] at h1 h2; omega)]
theorem P_X12_in (x l m : Int32) (v : gV) : p_X12_in x l m v := by
  simp only [p_X12_in_15, p_X12_in_14, p_X12_in_0, p_X12_in, or_true, true_or, and_self, implies_true]
theorem F_X12_isCause (x : Int32) (v : gV) : f_X12_isCause x v = if isC x = true then nI 1 else nI 0 := by
  rw [← F_X11_isCause x v]
  simp only [f_X12_isCause_29, f_X12_isCause_24, f_X12_isCause_0, f_X12_isCause, f_X11_isCause_29, f_X11_isCause_24, f_X11_isCause_0, f_X11_isCause]
theorem P_X12_isCause (x : Int32) (v : gV) : p_X12_isCause x v := by
  simp only [p_X12_isCause_29, p_X12_isCause_24, p_X12_isCause_0, p_X12_isCause, or_true, true_or, and_self, implies_true]
theorem F_X12_p (v : gV) {k o : Nat} (h : 8 + 8 * k + o < 300) : f_X12_p (nI k) (nI o) v = v.1 560 (8 + 8 * k + o) := by
  simp (disch := omega) only [f_X12_p_0, f_X12_p, li_0, li_1, li_2, li_3, li_4, li_5, li_6, li_7, li_8, li_9, li_10, li_11, li_12, li_29, li_30, li_32, li_33, li_35, li_42, li_43, li_45, li_47, li_48, li_50, li_57, li_58, li_59, li_60, li_61, li_63, li_64, li_67, li_68, li_72, li_78, li_79, li_80, li_97, li_99, li_100, li_101, li_102, li_103, li_105, li_108, li_109, li_110, li_111, li_112, li_114, li_115, li_116, li_117, li_118, li_119, li_120, li_121, li_126, li_216, li_232, li_240, li_264, li_300, li_1000, li_1000000, li_2147483647, nI_add, nI_mul, cl_n, vi_n, sub_n]
theorem P_X12_p (v : gV) {k o : Nat} (h : 8 + 8 * k + o < 300) : p_X12_p (nI k) (nI o) v := by
  simp (disch := omega) only [p_X12_p_0, p_X12_p, li_0, li_1, li_2, li_3, li_4, li_5, li_6, li_7, li_8, li_9, li_10, li_11, li_12, li_29, li_30, li_32, li_33, li_35, li_42, li_43, li_45, li_47, li_48, li_50, li_57, li_58, li_59, li_60, li_61, li_63, li_64, li_67, li_68, li_72, li_78, li_79, li_80, li_97, li_99, li_100, li_101, li_102, li_103, li_105, li_108, li_109, li_110, li_111, li_112, li_114, li_115, li_116, li_117, li_118, li_119, li_120, li_121, li_126, li_216, li_232, li_240, li_264, li_300, li_1000, li_1000000, li_2147483647, nI_add, nI_mul, cl_n, vi_n, sub_n, and_self]
theorem F_X12_c (v : gV) {k o : Nat} (h : 72 + 12 * k + o < 300) : f_X12_c (nI k) (nI o) v = v.1 560 (72 + 12 * k + o) := by
  simp (disch := omega) only [f_X12_c_0, f_X12_c, li_0, li_1, li_2, li_3, li_4, li_5, li_6, li_7, li_8, li_9, li_10, li_11, li_12, li_29, li_30, li_32, li_33, li_35, li_42, li_43, li_45, li_47, li_48, li_50, li_57, li_58, li_59, li_60, li_61, li_63, li_64, li_67, li_68, li_72, li_78, li_79, li_80, li_97, li_99, li_100, li_101, li_102, li_103, li_105, li_108, li_109, li_110, li_111, li_112, li_114, li_115, li_116, li_117, li_118, li_119, li_120, li_121, li_126, li_216, li_232, li_240, li_264, li_300, li_1000, li_1000000, li_2147483647, nI_add, nI_mul, cl_n, vi_n, sub_n]
theorem P_X12_c (v : gV) {k o : Nat} (h : 72 + 12 * k + o < 300) : p_X12_c (nI k) (nI o) v := by
  simp (disch := omega) only [p_X12_c_0, p_X12_c, li_0, li_1, li_2, li_3, li_4, li_5, li_6, li_7, li_8, li_9, li_10, li_11, li_12, li_29, li_30, li_32, li_33, li_35, li_42, li_43, li_45, li_47, li_48, li_50, li_57, li_58, li_59, li_60, li_61, li_63, li_64, li_67, li_68, li_72, li_78, li_79, li_80, li_97, li_99, li_100, li_101, li_102, li_103, li_105, li_108, li_109, li_110, li_111, li_112, li_114, li_115, li_116, li_117, li_118, li_119, li_120, li_121, li_126, li_216, li_232, li_240, li_264, li_300, li_1000, li_1000000, li_2147483647, nI_add, nI_mul, cl_n, vi_n, sub_n, and_self]
theorem F_X12_t (v : gV) {k o : Nat} (h : 216 + 4 * k + o < 300) : f_X12_t (nI k) (nI o) v = v.1 560 (216 + 4 * k + o) := by
  simp (disch := omega) only [f_X12_t_0, f_X12_t, li_0, li_1, li_2, li_3, li_4, li_5, li_6, li_7, li_8, li_9, li_10, li_11, li_12, li_29, li_30, li_32, li_33, li_35, li_42, li_43, li_45, li_47, li_48, li_50, li_57, li_58, li_59, li_60, li_61, li_63, li_64, li_67, li_68, li_72, li_78, li_79, li_80, li_97, li_99, li_100, li_101, li_102, li_103, li_105, li_108, li_109, li_110, li_111, li_112, li_114, li_115, li_116, li_117, li_118, li_119, li_120, li_121, li_126, li_216, li_232, li_240, li_264, li_300, li_1000, li_1000000, li_2147483647, nI_add, nI_mul, cl_n, vi_n, sub_n]
theorem P_X12_t (v : gV) {k o : Nat} (h : 216 + 4 * k + o < 300) : p_X12_t (nI k) (nI o) v := by
  simp (disch := omega) only [p_X12_t_0, p_X12_t, li_0, li_1, li_2, li_3, li_4, li_5, li_6, li_7, li_8, li_9, li_10, li_11, li_12, li_29, li_30, li_32, li_33, li_35, li_42, li_43, li_45, li_47, li_48, li_50, li_57, li_58, li_59, li_60, li_61, li_63, li_64, li_67, li_68, li_72, li_78, li_79, li_80, li_97, li_99, li_100, li_101, li_102, li_103, li_105, li_108, li_109, li_110, li_111, li_112, li_114, li_115, li_116, li_117, li_118, li_119, li_120, li_121, li_126, li_216, li_232, li_240, li_264, li_300, li_1000, li_1000000, li_2147483647, nI_add, nI_mul, cl_n, vi_n, sub_n, and_self]
theorem F_X12_o (v : gV) {k o : Nat} (h : 232 + 4 * k + o < 300) : f_X12_o (nI k) (nI o) v = v.1 560 (232 + 4 * k + o) := by
  simp (disch := omega) only [f_X12_o_0, f_X12_o, li_0, li_1, li_2, li_3, li_4, li_5, li_6, li_7, li_8, li_9, li_10, li_11, li_12, li_29, li_30, li_32, li_33, li_35, li_42, li_43, li_45, li_47, li_48, li_50, li_57, li_58, li_59, li_60, li_61, li_63, li_64, li_67, li_68, li_72, li_78, li_79, li_80, li_97, li_99, li_100, li_101, li_102, li_103, li_105, li_108, li_109, li_110, li_111, li_112, li_114, li_115, li_116, li_117, li_118, li_119, li_120, li_121, li_126, li_216, li_232, li_240, li_264, li_300, li_1000, li_1000000, li_2147483647, nI_add, nI_mul, cl_n, vi_n, sub_n]
theorem P_X12_o (v : gV) {k o : Nat} (h : 232 + 4 * k + o < 300) : p_X12_o (nI k) (nI o) v := by
  simp (disch := omega) only [p_X12_o_0, p_X12_o, li_0, li_1, li_2, li_3, li_4, li_5, li_6, li_7, li_8, li_9, li_10, li_11, li_12, li_29, li_30, li_32, li_33, li_35, li_42, li_43, li_45, li_47, li_48, li_50, li_57, li_58, li_59, li_60, li_61, li_63, li_64, li_67, li_68, li_72, li_78, li_79, li_80, li_97, li_99, li_100, li_101, li_102, li_103, li_105, li_108, li_109, li_110, li_111, li_112, li_114, li_115, li_116, li_117, li_118, li_119, li_120, li_121, li_126, li_216, li_232, li_240, li_264, li_300, li_1000, li_1000000, li_2147483647, nI_add, nI_mul, cl_n, vi_n, sub_n, and_self]
theorem F_X12_cell (v : gV) {k o : Nat} (h : 264 + 6 * k + o < 300) : f_X12_cell (nI k) (nI o) v = v.1 560 (264 + 6 * k + o) := by
  simp (disch := omega) only [f_X12_cell_0, f_X12_cell, li_0, li_1, li_2, li_3, li_4, li_5, li_6, li_7, li_8, li_9, li_10, li_11, li_12, li_29, li_30, li_32, li_33, li_35, li_42, li_43, li_45, li_47, li_48, li_50, li_57, li_58, li_59, li_60, li_61, li_63, li_64, li_67, li_68, li_72, li_78, li_79, li_80, li_97, li_99, li_100, li_101, li_102, li_103, li_105, li_108, li_109, li_110, li_111, li_112, li_114, li_115, li_116, li_117, li_118, li_119, li_120, li_121, li_126, li_216, li_232, li_240, li_264, li_300, li_1000, li_1000000, li_2147483647, nI_add, nI_mul, cl_n, vi_n, sub_n]
theorem P_X12_cell (v : gV) {k o : Nat} (h : 264 + 6 * k + o < 300) : p_X12_cell (nI k) (nI o) v := by
  simp (disch := omega) only [p_X12_cell_0, p_X12_cell, li_0, li_1, li_2, li_3, li_4, li_5, li_6, li_7, li_8, li_9, li_10, li_11, li_12, li_29, li_30, li_32, li_33, li_35, li_42, li_43, li_45, li_47, li_48, li_50, li_57, li_58, li_59, li_60, li_61, li_63, li_64, li_67, li_68, li_72, li_78, li_79, li_80, li_97, li_99, li_100, li_101, li_102, li_103, li_105, li_108, li_109, li_110, li_111, li_112, li_114, li_115, li_116, li_117, li_118, li_119, li_120, li_121, li_126, li_216, li_232, li_240, li_264, li_300, li_1000, li_1000000, li_2147483647, nI_add, nI_mul, cl_n, vi_n, sub_n, and_self]
/-- places of ids -/
def pol (w : Nat → Int32) (n : Nat) (x : Int32) : Option Nat := fid (fun k => w (8 + 8 * k)) n x
def clm (w : Nat → Int32) (n : Nat) (x : Int32) : Option Nat := fid (fun k => w (72 + 12 * k)) n x
theorem L_X12_policy (x : Int32) (v : gV) {n : Nat} (h0 : v.1 560 0 = nI n) (hn : n ≤ 8) : ∀ (m k fuel : Nat), k + m = n → m < fuel → p_X12_policy_2 fuel x (nI k) v ∧ f_X12_policy_2 fuel x (nI k) v = oN (ff (fun i => decide (v.1 560 (8 + 8 * i) = x)) m k) := by
  intro m
  induction m with
  | zero =>
    intro k fuel hk hf
    obtain ⟨f, rfl⟩ := fuel_s hf
    have hc : nI n ≤ nI k := nI_le (by omega) (by omega)
    rw [p_X12_policy_2, f_X12_policy_2, li_0, cl_n (by omega), h0, if_pos hc, ff_0]
    exact ⟨⟨fun _ => trivial, fun h => absurd hc h⟩, rfl⟩
  | succ m ih =>
    intro k fuel hk hf
    obtain ⟨f, rfl⟩ := fuel_s hf
    have hc : ¬ nI n ≤ nI k := nI_ge (by omega) (by omega)
    have hi := ih (k + 1) f (by omega) (by omega)
    rw [p_X12_policy_2, f_X12_policy_2, li_0, cl_n (by omega), h0, if_neg hc, F_X12_p v (by omega), nI_1, ff_s, Nat.add_zero]
    by_cases hq : v.1 560 (8 + 8 * k) = x
    · rw [if_pos hq, if_pos (decide_eq_true hq)]
      exact ⟨⟨fun h => absurd h hc, fun _ => ⟨P_X12_p v (by omega), fun _ => trivial, fun h => absurd hq h⟩⟩, rfl⟩
    · rw [if_neg hq, if_neg (by rw [decide_eq_true_iff]; exact hq)]
      exact ⟨⟨fun h => absurd h hc, fun _ => ⟨P_X12_p v (by omega), fun h => absurd h hq, fun _ => hi.1⟩⟩, hi.2⟩
theorem F_X12_policy (x : Int32) (v : gV) {n : Nat} (h0 : v.1 560 0 = nI n) (hn : n ≤ 8) : f_X12_policy x v = oN (pol (v.1 560) n x) := (L_X12_policy x v h0 hn n 0 5000 (by omega) (by omega)).2
theorem P_X12_policy (x : Int32) (v : gV) {n : Nat} (h0 : v.1 560 0 = nI n) (hn : n ≤ 8) : p_X12_policy x v := (L_X12_policy x v h0 hn n 0 5000 (by omega) (by omega)).1
theorem L_X12_claim (x : Int32) (v : gV) {n : Nat} (h0 : v.1 560 1 = nI n) (hn : n ≤ 12) : ∀ (m k fuel : Nat), k + m = n → m < fuel → p_X12_claim_2 fuel x (nI k) v ∧ f_X12_claim_2 fuel x (nI k) v = oN (ff (fun i => decide (v.1 560 (72 + 12 * i) = x)) m k) := by
  intro m
  induction m with
  | zero =>
    intro k fuel hk hf
    obtain ⟨f, rfl⟩ := fuel_s hf
    have hc : nI n ≤ nI k := nI_le (by omega) (by omega)
    rw [p_X12_claim_2, f_X12_claim_2, li_1, cl_n (by omega), h0, if_pos hc, ff_0]
    exact ⟨⟨fun _ => trivial, fun h => absurd hc h⟩, rfl⟩
  | succ m ih =>
    intro k fuel hk hf
    obtain ⟨f, rfl⟩ := fuel_s hf
    have hc : ¬ nI n ≤ nI k := nI_ge (by omega) (by omega)
    have hi := ih (k + 1) f (by omega) (by omega)
    rw [p_X12_claim_2, f_X12_claim_2, li_1, cl_n (by omega), h0, if_neg hc, li_0, F_X12_c v (by omega), nI_add, ff_s, Nat.add_zero]
    by_cases hq : v.1 560 (72 + 12 * k) = x
    · rw [if_pos hq, if_pos (decide_eq_true hq)]
      exact ⟨⟨fun h => absurd h hc, fun _ => ⟨P_X12_c v (by omega), fun _ => trivial, fun h => absurd hq h⟩⟩, rfl⟩
    · rw [if_neg hq, if_neg (by rw [decide_eq_true_iff]; exact hq)]
      exact ⟨⟨fun h => absurd h hc, fun _ => ⟨P_X12_c v (by omega), fun h => absurd h hq, fun _ => hi.1⟩⟩, hi.2⟩
theorem F_X12_claim (x : Int32) (v : gV) {n : Nat} (h0 : v.1 560 1 = nI n) (hn : n ≤ 12) : f_X12_claim x v = oN (clm (v.1 560) n x) := (L_X12_claim x v h0 hn n 0 5000 (by omega) (by omega)).2
theorem P_X12_claim (x : Int32) (v : gV) {n : Nat} (h0 : v.1 560 1 = nI n) (hn : n ≤ 12) : p_X12_claim x v := (L_X12_claim x v h0 hn n 0 5000 (by omega) (by omega)).1
/-- whether an answer of a search is a place -/
theorem oN_some {k : Nat} (h : k < 2147483648) : (0 : Int32) ≤ oN (some k) := nI_pos' (by omega)
theorem oN_none : ¬ (0 : Int32) ≤ oN none := by decide +kernel
theorem oN_n0 : ¬ nI 0 ≤ oN none := oN_none
theorem oN_some' {k : Nat} (h : k < 2147483648) : ¬ oN (some k) < 0 := nI_pos (by omega)
theorem oN_none' : oN none < 0 := by decide +kernel
def act (w : Nat → Int32) (k : Nat) : Bool := !decide (w (8 + 8 * k + 4) ≤ w 6)
theorem F_X12_isActiveAt (v : gV) {k : Nat} (h : k < 30) : f_X12_isActiveAt (nI k) v = if act (v.1 560) k = true then nI 1 else nI 0 := by
  simp (disch := omega) only [f_X12_isActiveAt_21, f_X12_isActiveAt_0, f_X12_isActiveAt, li_0, li_1, li_2, li_3, li_4, li_5, li_6, li_7, li_8, li_9, li_10, li_11, li_12, li_29, li_30, li_32, li_33, li_35, li_42, li_43, li_45, li_47, li_48, li_50, li_57, li_58, li_59, li_60, li_61, li_63, li_64, li_67, li_68, li_72, li_78, li_79, li_80, li_97, li_99, li_100, li_101, li_102, li_103, li_105, li_108, li_109, li_110, li_111, li_112, li_114, li_115, li_116, li_117, li_118, li_119, li_120, li_121, li_126, li_216, li_232, li_240, li_264, li_300, li_1000, li_1000000, li_2147483647, nI_add, nI_mul, cl_n, vi_n, sub_n, F_X12_p, act, Bool.not_eq_true', decide_eq_false_iff_not, ite_not]
theorem P_X12_isActiveAt (v : gV) {k : Nat} (h : k < 30) : p_X12_isActiveAt (nI k) v := by
  simp (disch := omega) only [p_X12_isActiveAt_21, p_X12_isActiveAt_0, p_X12_isActiveAt, li_0, li_1, li_2, li_3, li_4, li_5, li_6, li_7, li_8, li_9, li_10, li_11, li_12, li_29, li_30, li_32, li_33, li_35, li_42, li_43, li_45, li_47, li_48, li_50, li_57, li_58, li_59, li_60, li_61, li_63, li_64, li_67, li_68, li_72, li_78, li_79, li_80, li_97, li_99, li_100, li_101, li_102, li_103, li_105, li_108, li_109, li_110, li_111, li_112, li_114, li_115, li_116, li_117, li_118, li_119, li_120, li_121, li_126, li_216, li_232, li_240, li_264, li_300, li_1000, li_1000000, li_2147483647, P_X12_p, or_true, true_or, and_self, implies_true]
/-! insure -/
def yIns (w : Nat → Int32) (a b c : Int32) : Int32 := if inb a (nI 1) (nI 30) = true then (if inb b (nI 0) (nI 8) = true then (if inb c (nI 1) (nI 60) = true then (if w 0 = nI 8 then nI 2 else nI 0) else nI 1) else nI 1) else nI 1
theorem F_X12_cannotInsure (a b c : Int32) (v : gV) : f_X12_cannotInsure a b c v = yIns (v.1 560) a b c := by
  simp (disch := omega) only [f_X12_cannotInsure_30, f_X12_cannotInsure_48, f_X12_cannotInsure_0, f_X12_cannotInsure, F_X12_in, li_0, li_1, li_2, li_3, li_4, li_5, li_6, li_7, li_8, li_9, li_10, li_11, li_12, li_29, li_30, li_32, li_33, li_35, li_42, li_43, li_45, li_47, li_48, li_50, li_57, li_58, li_59, li_60, li_61, li_63, li_64, li_67, li_68, li_72, li_78, li_79, li_80, li_97, li_99, li_100, li_101, li_102, li_103, li_105, li_108, li_109, li_110, li_111, li_112, li_114, li_115, li_116, li_117, li_118, li_119, li_120, li_121, li_126, li_216, li_232, li_240, li_264, li_300, li_1000, li_1000000, li_2147483647, nI_add, nI_mul, cl_n, vi_n, sub_n, bz, yIns]
  cases inb a (nI 1) (nI 30) <;> cases inb b (nI 0) (nI 8) <;> cases inb c (nI 1) (nI 60) <;> rfl
theorem P_X12_cannotInsure (a b c : Int32) (v : gV) : p_X12_cannotInsure a b c v := by
  simp only [p_X12_cannotInsure_30, p_X12_cannotInsure_48, p_X12_cannotInsure_0, p_X12_cannotInsure, P_X12_in, implies_true, and_self]
def prem (a b c : Int32) : Int32 := if nI 1 ≤ (a * b * c + nI 79) / nI 80 then (a * b * c + nI 79) / nI 80 else nI 1
def mIns (w : Nat → Int32) (n : Nat) (a b c : Int32) : Nat → Int32 := upd (upd (upd (upd (upd (upd (upd (upd (upd (upd w (8 + 8 * n + 0) (w 4)) (8 + 8 * n + 1) a) (8 + 8 * n + 2) b) (8 + 8 * n + 3) c) (8 + 8 * n + 4) (w 6 + c)) (8 + 8 * n + 5) (prem a b c)) (8 + 8 * n + 6) (nI 0)) 7 (w 7 + prem a b c)) 0 (nI (n + 1))) 4 (w 4 + nI 1)
theorem F_X12_insures (a b c : Int32) (v : gV) {n : Nat} (h0 : v.1 560 0 = nI n) (hn : n < 8) : f_X12_insures a b c v = (v.1 560 4, vRow v 560 (mIns (v.1 560) n a b c)) := by
  unfold mIns prem
  by_cases hp : nI 1 ≤ (a * b * c + nI 79) / nI 80
  · simp (disch := omega) only [f_X12_insures_161, f_X12_insures_151, f_X12_insures_141, f_X12_insures_122, f_X12_insures_111, f_X12_insures_110, f_X12_insures_90, f_X12_insures_72, f_X12_insures_62, f_X12_insures_52, f_X12_insures_42, f_X12_insures_0, f_X12_insures, li_0, li_1, li_2, li_3, li_4, li_5, li_6, li_7, li_8, li_9, li_10, li_11, li_12, li_29, li_30, li_32, li_33, li_35, li_42, li_43, li_45, li_47, li_48, li_50, li_57, li_58, li_59, li_60, li_61, li_63, li_64, li_67, li_68, li_72, li_78, li_79, li_80, li_97, li_99, li_100, li_101, li_102, li_103, li_105, li_108, li_109, li_110, li_111, li_112, li_114, li_115, li_116, li_117, li_118, li_119, li_120, li_121, li_126, li_216, li_232, li_240, li_264, li_300, li_1000, li_1000000, li_2147483647, nI_add, nI_mul, cl_n, vi_n, sub_n, vM_rw, vRow_row, vRow_eq, h0, upd_is, upd_ne, hp, if_true, Int32.add_sub_cancel]
  · simp (disch := omega) only [f_X12_insures_161, f_X12_insures_151, f_X12_insures_141, f_X12_insures_122, f_X12_insures_111, f_X12_insures_110, f_X12_insures_90, f_X12_insures_72, f_X12_insures_62, f_X12_insures_52, f_X12_insures_42, f_X12_insures_0, f_X12_insures, li_0, li_1, li_2, li_3, li_4, li_5, li_6, li_7, li_8, li_9, li_10, li_11, li_12, li_29, li_30, li_32, li_33, li_35, li_42, li_43, li_45, li_47, li_48, li_50, li_57, li_58, li_59, li_60, li_61, li_63, li_64, li_67, li_68, li_72, li_78, li_79, li_80, li_97, li_99, li_100, li_101, li_102, li_103, li_105, li_108, li_109, li_110, li_111, li_112, li_114, li_115, li_116, li_117, li_118, li_119, li_120, li_121, li_126, li_216, li_232, li_240, li_264, li_300, li_1000, li_1000000, li_2147483647, nI_add, nI_mul, cl_n, vi_n, sub_n, vM_rw, vRow_row, vRow_eq, h0, upd_is, upd_ne, hp, if_false, Int32.add_sub_cancel]
theorem P_X12_insures (a b c : Int32) (v : gV) {n : Nat} (h0 : v.1 560 0 = nI n) (hn : n < 8) : p_X12_insures a b c v := by
  simp (disch := omega) only [p_X12_insures_161, p_X12_insures_151, p_X12_insures_141, p_X12_insures_122, p_X12_insures_111, p_X12_insures_110, p_X12_insures_90, p_X12_insures_72, p_X12_insures_62, p_X12_insures_52, p_X12_insures_42, p_X12_insures_0, p_X12_insures, li_0, li_1, li_2, li_3, li_4, li_5, li_6, li_7, li_8, li_9, li_10, li_11, li_12, li_29, li_30, li_32, li_33, li_35, li_42, li_43, li_45, li_47, li_48, li_50, li_57, li_58, li_59, li_60, li_61, li_63, li_64, li_67, li_68, li_72, li_78, li_79, li_80, li_97, li_99, li_100, li_101, li_102, li_103, li_105, li_108, li_109, li_110, li_111, li_112, li_114, li_115, li_116, li_117, li_118, li_119, li_120, li_121, li_126, li_216, li_232, li_240, li_264, li_300, li_1000, li_1000000, li_2147483647, nI_add, nI_mul, cl_n, vi_n, sub_n, vM_rw, vRow_row, vRow_eq, h0, upd_is, upd_ne, and_self, implies_true]
