/-! the reference's changes, in closed form -/
theorem bz01 (c : Bool) : (if c = true then nI 1 else nI 0) = nI 0 ∨ (if c = true then nI 1 else nI 0) = nI 1 := by
  cases c with
  | true => exact Or.inr rfl
  | false => exact Or.inl rfl
/-- a row shifted down by s from i to e -/
def shf (w : Nat → Int32) (i e s : Nat) : Nat → Int32 := fun j => if i ≤ j ∧ j < e then w (j + s) else w j
theorem shf_in {w : Nat → Int32} {i e s j : Nat} (h : i ≤ j ∧ j < e) : shf w i e s j = w (j + s) := if_pos h
theorem shf_out {w : Nat → Int32} {i e s j : Nat} (h : ¬ (i ≤ j ∧ j < e)) : shf w i e s j = w j := if_neg h
theorem fil_in {w : Nat → Int32} {x : Int32} {i e j : Nat} (h : i ≤ j ∧ j < e) : fil w x i e j = x := if_pos h
theorem fil_out {w : Nat → Int32} {x : Int32} {i e j : Nat} (h : ¬ (i ≤ j ∧ j < e)) : fil w x i e j = w j := if_neg h
theorem fil_nil (w : Nat → Int32) (x : Int32) (i : Nat) : fil w x i i = w := by
  funext j
  exact if_neg (by omega)
theorem fil_s (w : Nat → Int32) (x : Int32) {i e : Nat} (h : i < e) : fil (upd w i x) x (i + 1) e = fil w x i e := by
  funext j
  unfold fil
  rw [upd_at]
  by_cases h1 : j = i
  · rw [if_neg (by omega), if_pos h1, if_pos (by omega)]
  · by_cases h2 : i + 1 ≤ j ∧ j < e
    · rw [if_pos h2, if_pos (by omega)]
    · rw [if_neg h2, if_neg h1, if_neg (by omega)]
theorem shf_nil (w : Nat → Int32) (i s : Nat) : shf w i i s = w := by
  funext j
  exact if_neg (by omega)
theorem shf_s (w : Nat → Int32) {i e s : Nat} (h : i < e) (hs : 0 < s) : shf (upd w i (w (i + s))) (i + 1) e s = shf w i e s := by
  funext j
  unfold shf
  rw [upd_at, upd_at]
  by_cases h1 : j = i
  · rw [if_neg (by omega), if_pos h1, if_pos (by omega), h1]
  · by_cases h2 : i + 1 ≤ j ∧ j < e
    · rw [if_pos h2, if_neg (by omega), if_pos (by omega)]
    · rw [if_neg h2, if_neg h1, if_neg (by omega)]
theorem L_X12_removeRow2 {x1 x4 : Int32} {s e : Nat} (he : x1 + nI s * x4 = nI e) (h3 : e + s ≤ 300) : ∀ (m i fuel : Nat) (v : gV), i + m = s → m < fuel → p_X12_removeRow_43 fuel x1 (nI s) x4 (nI i) v ∧ f_X12_removeRow_43 fuel x1 (nI s) x4 (nI i) v = vRow v 560 (fil (v.1 560) (nI 0) (e + i) (e + s)) := by
  intro m
  induction m with
  | zero =>
    intro i fuel v hk hf
    obtain ⟨f, rfl⟩ := fuel_s hf
    have hc : nI s ≤ nI i := nI_le (by omega) (by omega)
    rw [p_X12_removeRow_43, f_X12_removeRow_43, if_pos hc, show e + s = e + i by omega, fil_nil, vRow_self]
    exact ⟨⟨fun _ => trivial, fun h => absurd hc h⟩, rfl⟩
  | succ m ih =>
    intro i fuel v hk hf
    obtain ⟨f, rfl⟩ := fuel_s hf
    have hc : ¬ nI s ≤ nI i := nI_ge (by omega) (by omega)
    have hi := ih (i + 1) f (vM v 560 (e + i) (nI 0)) (by omega) (by omega)
    rw [vM_rw, vRow_row, vRow_eq, show e + (i + 1) = e + i + 1 by omega, fil_s _ _ (by omega)] at hi
    rw [p_X12_removeRow_43, f_X12_removeRow_43, if_neg hc, he, nI_add, cl_n (by omega), li_0]
    simp only [f_X12_removeRow_64, p_X12_removeRow_64, nI_1]
    exact ⟨⟨fun h => absurd h hc, fun _ => ⟨vi_n (by omega) (by omega), hi.1⟩⟩, hi.2⟩
theorem L_X12_removeRow {x1 x4 : Int32} {s e : Nat} (hs : 0 < s) (he : x1 + nI s * x4 = nI e) (h3 : e + s ≤ 300) : ∀ (m i fuel : Nat) (v : gV), i + m = e → m < fuel → p_X12_removeRow_7 fuel x1 (nI s) x4 (nI i) v ∧ f_X12_removeRow_7 fuel x1 (nI s) x4 (nI i) v = vRow v 560 (fil (shf (v.1 560) i e s) (nI 0) e (e + s)) := by
  intro m
  induction m with
  | zero =>
    intro i fuel v hk hf
    obtain ⟨f, rfl⟩ := fuel_s hf
    have hc : nI e ≤ nI i := nI_le (by omega) (by omega)
    have h2 := L_X12_removeRow2 he h3 s 0 5000 v (by omega) (by omega)
    rw [p_X12_removeRow_7, f_X12_removeRow_7, he, if_pos hc, show i = e by omega, shf_nil]
    exact ⟨⟨fun _ => h2.1, fun h => absurd (show nI e ≤ nI e from nI_le (by omega) (by omega)) h⟩, h2.2⟩
  | succ m ih =>
    intro i fuel v hk hf
    obtain ⟨f, rfl⟩ := fuel_s hf
    have hc : ¬ nI e ≤ nI i := nI_ge (by omega) (by omega)
    have hi := ih (i + 1) f (vM v 560 i (v.1 560 (i + s))) (by omega) (by omega)
    rw [vM_rw, vRow_row, vRow_eq, shf_s _ (by omega) hs] at hi
    rw [p_X12_removeRow_7, f_X12_removeRow_7, he, if_neg hc, nI_add, cl_n (by omega), cl_n (by omega)]
    simp only [f_X12_removeRow_34, p_X12_removeRow_34, nI_1]
    exact ⟨⟨fun h => absurd h hc, fun _ => ⟨vi_n (by omega) (by omega), vi_n (by omega) (by omega), hi.1⟩⟩, hi.2⟩
/-- the row at place b .. b + s - 1 taken out of the rows up to e -/
def rmv (w : Nat → Int32) (b e s : Nat) : Nat → Int32 := fil (shf w b e s) (nI 0) e (e + s)
theorem F_X12_removeRow (v : gV) {a s k m b e : Nat} (hs : 0 < s) (hb : b = a + s * k) (he : e = a + s * m) (hbe : b ≤ e) (h3 : e + s ≤ 300) : f_X12_removeRow (nI a) (nI s) (nI k) (nI m) v = vRow v 560 (rmv (v.1 560) b e s) := by
  simp only [f_X12_removeRow_64, f_X12_removeRow_34, f_X12_removeRow_0, f_X12_removeRow, nI_mul, nI_add]
  rw [← hb]
  exact (L_X12_removeRow hs (by rw [nI_mul, nI_add, he]) h3 (e - b) b 5000 v (by omega) (by omega)).2
theorem P_X12_removeRow (v : gV) {a s k m b e : Nat} (hs : 0 < s) (hb : b = a + s * k) (he : e = a + s * m) (hbe : b ≤ e) (h3 : e + s ≤ 300) : p_X12_removeRow (nI a) (nI s) (nI k) (nI m) v := by
  simp only [p_X12_removeRow_64, p_X12_removeRow_34, p_X12_removeRow_0, p_X12_removeRow, nI_mul, nI_add]
  rw [← hb]
  exact (L_X12_removeRow hs (by rw [nI_mul, nI_add, he]) h3 (e - b) b 5000 v (by omega) (by omega)).1
/-! endPolicy -/
theorem L_X12_hasClaim (x : Int32) (v : gV) {n : Nat} (h0 : v.1 560 1 = nI n) (hn : n ≤ 12) : ∀ (m k fuel : Nat), k + m = n → m < fuel → p_X12_hasClaim_2 fuel x (nI k) v ∧ f_X12_hasClaim_2 fuel x (nI k) v = if (ff (fun i => decide (v.1 560 (72 + 12 * i + 1) = x)) m k).isSome = true then nI 1 else nI 0 := by
  intro m
  induction m with
  | zero =>
    intro k fuel hk hf
    obtain ⟨f, rfl⟩ := fuel_s hf
    have hc : nI n ≤ nI k := nI_le (by omega) (by omega)
    rw [p_X12_hasClaim_2, f_X12_hasClaim_2, li_1, cl_n (by omega), h0, if_pos hc, ff_0]
    exact ⟨⟨fun _ => trivial, fun h => absurd hc h⟩, rfl⟩
  | succ m ih =>
    intro k fuel hk hf
    obtain ⟨f, rfl⟩ := fuel_s hf
    have hc : ¬ nI n ≤ nI k := nI_ge (by omega) (by omega)
    have hi := ih (k + 1) f (by omega) (by omega)
    rw [p_X12_hasClaim_2, f_X12_hasClaim_2, li_1, cl_n (by omega), h0, if_neg hc, F_X12_c v (by omega), nI_add, ff_s]
    by_cases hq : v.1 560 (72 + 12 * k + 1) = x
    · rw [if_pos hq, decide_eq_true hq]
      exact ⟨⟨fun h => absurd h hc, fun _ => ⟨P_X12_c v (by omega), fun _ => trivial, fun h => absurd hq h⟩⟩, rfl⟩
    · simp only [if_neg hq, decide_eq_false hq, Bool.false_eq_true, if_false]
      exact ⟨⟨fun h => absurd h hc, fun _ => ⟨P_X12_c v (by omega), fun h => absurd h hq, fun _ => hi.1⟩⟩, hi.2⟩
def hcl (w : Nat → Int32) (n : Nat) (x : Int32) : Bool := (ff (fun i => decide (w (72 + 12 * i + 1) = x)) n 0).isSome
theorem F_X12_hasClaim (x : Int32) (v : gV) {n : Nat} (h0 : v.1 560 1 = nI n) (hn : n ≤ 12) : f_X12_hasClaim x v = if hcl (v.1 560) n x = true then nI 1 else nI 0 := (L_X12_hasClaim x v h0 hn n 0 5000 (by omega) (by omega)).2
theorem P_X12_hasClaim (x : Int32) (v : gV) {n : Nat} (h0 : v.1 560 1 = nI n) (hn : n ≤ 12) : p_X12_hasClaim x v := (L_X12_hasClaim x v h0 hn n 0 5000 (by omega) (by omega)).1
def yEnd (w : Nat → Int32) (np nc : Nat) (x : Int32) : Int32 := (pol w np x).elim (nI 1) fun _ => if hcl w nc x = true then nI 2 else nI 0
theorem pol_lt {w : Nat → Int32} {n k : Nat} {x : Int32} (h : pol w n x = some k) : k < n := (fid_some h).1
theorem clm_lt {w : Nat → Int32} {n k : Nat} {x : Int32} (h : clm w n x = some k) : k < n := (fid_some h).1
theorem F_X12_cannotEnd (x : Int32) (v : gV) {np nc : Nat} (h0 : v.1 560 0 = nI np) (hn : np ≤ 8) (h1 : v.1 560 1 = nI nc) (hc : nc ≤ 12) : f_X12_cannotEnd x v = yEnd (v.1 560) np nc x := by
  simp only [f_X12_cannotEnd_25, f_X12_cannotEnd_0, f_X12_cannotEnd, F_X12_policy x v h0 hn, F_X12_hasClaim x v h1 hc, yEnd]
  cases e : pol (v.1 560) np x with
  | none =>
    rw [if_neg oN_none]
    rfl
  | some k =>
    have := pol_lt e
    rw [if_pos (oN_some (by omega))]
    cases hcl (v.1 560) nc x <;> rfl
theorem P_X12_cannotEnd (x : Int32) (v : gV) {np nc : Nat} (h0 : v.1 560 0 = nI np) (hn : np ≤ 8) (h1 : v.1 560 1 = nI nc) (hc : nc ≤ 12) : p_X12_cannotEnd x v := by
  simp only [p_X12_cannotEnd_25, p_X12_cannotEnd_0, p_X12_cannotEnd, P_X12_policy x v h0 hn, P_X12_hasClaim x v h1 hc, implies_true, and_self]
/-- what is paid back of the policy at place k -/
def bck (w : Nat → Int32) (k : Nat) : Int32 := if act w k = true then w (8 + 8 * k + 5) * (w (8 + 8 * k + 4) - w 6) / w (8 + 8 * k + 3) else nI 0
def mEnd (w : Nat → Int32) (n k : Nat) : Nat → Int32 := rmv (upd (upd w 7 (w 7 - bck w k)) 0 (nI (n - 1))) (8 + 8 * k) (8 + 8 * (n - 1)) 8
theorem K_X12_ends (x : Int32) (v : gV) {n k : Nat} (h0 : v.1 560 0 = nI n) (hn : n ≤ 8) (he : pol (v.1 560) n x = some k) (ht : ¬ v.1 560 (8 + 8 * k + 3) = nI 0) : p_X12_ends x v ∧ f_X12_ends x v = (bck (v.1 560) k, vRow v 560 (mEnd (v.1 560) n k)) := by
  have hk := pol_lt he
  have hF := F_X12_policy x v h0 hn
  have hP := P_X12_policy x v h0 hn
  rw [he] at hF
  have hF2 : f_X12_policy x v = nI k := hF
  have hrm : ∀ u : gV, u.1 560 0 = nI (n - 1) → f_X12_removeRow (nI 8) (nI 8) (nI k) (u.1 560 0) u = vRow u 560 (rmv (u.1 560) (8 + 8 * k) (8 + 8 * (n - 1)) 8) := fun u hu => by
    rw [hu]
    exact F_X12_removeRow u (by omega) rfl rfl (by omega) (by omega)
  have hrp : ∀ u : gV, u.1 560 0 = nI (n - 1) → p_X12_removeRow (nI 8) (nI 8) (nI k) (u.1 560 0) u := fun u hu => by
    rw [hu]
    exact P_X12_removeRow u (by omega) rfl rfl (by omega) (by omega)
  unfold mEnd bck
  cases ha : act (v.1 560) k with
  | true =>
    constructor
    · simp (disch := first | omega | assumption) only [p_X12_ends_83, p_X12_ends_68, p_X12_ends_58, p_X12_ends_46, p_X12_ends_0, p_X12_ends, hF2, hP, li_0, li_1, li_2, li_3, li_4, li_5, li_6, li_7, li_8, li_9, li_10, li_11, li_12, li_29, li_30, li_32, li_33, li_35, li_42, li_43, li_45, li_47, li_48, li_50, li_57, li_58, li_59, li_60, li_61, li_63, li_64, li_67, li_68, li_72, li_78, li_79, li_80, li_97, li_99, li_100, li_101, li_102, li_103, li_105, li_108, li_109, li_110, li_111, li_112, li_114, li_115, li_116, li_117, li_118, li_119, li_120, li_121, li_126, li_216, li_232, li_240, li_264, li_300, li_1000, li_1000000, li_2147483647, nI_add, nI_mul, cl_n, vi_n, sub_n, P_X12_isActiveAt, F_X12_isActiveAt, ha, if_true, n10, not_false_eq_true, true_implies, false_implies, implies_true, P_X12_p, F_X12_p, ht, vM_rw, vRow_row, vRow_eq, upd_is, upd_ne, h0, true_and, and_true, and_self]
      exact P_X12_removeRow _ (by omega) rfl rfl (by omega) (by omega)
    · simp (disch := omega) only [f_X12_ends_83, f_X12_ends_68, f_X12_ends_58, f_X12_ends_46, f_X12_ends_0, f_X12_ends, hF2, li_0, li_1, li_2, li_3, li_4, li_5, li_6, li_7, li_8, li_9, li_10, li_11, li_12, li_29, li_30, li_32, li_33, li_35, li_42, li_43, li_45, li_47, li_48, li_50, li_57, li_58, li_59, li_60, li_61, li_63, li_64, li_67, li_68, li_72, li_78, li_79, li_80, li_97, li_99, li_100, li_101, li_102, li_103, li_105, li_108, li_109, li_110, li_111, li_112, li_114, li_115, li_116, li_117, li_118, li_119, li_120, li_121, li_126, li_216, li_232, li_240, li_264, li_300, li_1000, li_1000000, li_2147483647, nI_add, nI_mul, cl_n, vi_n, sub_n, F_X12_isActiveAt, ha, if_true, n10, if_false, F_X12_p, vM_rw, vRow_row, vRow_eq, upd_is, upd_ne, h0]
      rw [F_X12_removeRow _ (by omega) (rfl : 8 + 8 * k = _) rfl (by omega) (by omega), vRow_row, vRow_eq]
  | false =>
    constructor
    · simp (disch := first | omega | assumption) only [p_X12_ends_83, p_X12_ends_68, p_X12_ends_58, p_X12_ends_46, p_X12_ends_0, p_X12_ends, hF2, hP, li_0, li_1, li_2, li_3, li_4, li_5, li_6, li_7, li_8, li_9, li_10, li_11, li_12, li_29, li_30, li_32, li_33, li_35, li_42, li_43, li_45, li_47, li_48, li_50, li_57, li_58, li_59, li_60, li_61, li_63, li_64, li_67, li_68, li_72, li_78, li_79, li_80, li_97, li_99, li_100, li_101, li_102, li_103, li_105, li_108, li_109, li_110, li_111, li_112, li_114, li_115, li_116, li_117, li_118, li_119, li_120, li_121, li_126, li_216, li_232, li_240, li_264, li_300, li_1000, li_1000000, li_2147483647, nI_add, nI_mul, cl_n, vi_n, sub_n, P_X12_isActiveAt, F_X12_isActiveAt, ha, Bool.false_eq_true, if_false, not_true_eq_false, true_implies, false_implies, implies_true, vM_rw, vRow_row, vRow_eq, upd_is, upd_ne, h0, true_and, and_true, and_self]
      exact P_X12_removeRow _ (by omega) rfl rfl (by omega) (by omega)
    · simp (disch := omega) only [f_X12_ends_83, f_X12_ends_68, f_X12_ends_58, f_X12_ends_46, f_X12_ends_0, f_X12_ends, hF2, li_0, li_1, li_2, li_3, li_4, li_5, li_6, li_7, li_8, li_9, li_10, li_11, li_12, li_29, li_30, li_32, li_33, li_35, li_42, li_43, li_45, li_47, li_48, li_50, li_57, li_58, li_59, li_60, li_61, li_63, li_64, li_67, li_68, li_72, li_78, li_79, li_80, li_97, li_99, li_100, li_101, li_102, li_103, li_105, li_108, li_109, li_110, li_111, li_112, li_114, li_115, li_116, li_117, li_118, li_119, li_120, li_121, li_126, li_216, li_232, li_240, li_264, li_300, li_1000, li_1000000, li_2147483647, nI_add, nI_mul, cl_n, vi_n, sub_n, F_X12_isActiveAt, ha, Bool.false_eq_true, if_true, if_false, vM_rw, vRow_row, vRow_eq, upd_is, upd_ne, h0]
      rw [F_X12_removeRow _ (by omega) (rfl : 8 + 8 * k = _) rfl (by omega) (by omega), vRow_row, vRow_eq]
/-! treaties -/
def yTre (w : Nat → Int32) (a b c d : Int32) : Int32 := if inb a (nI 0) (nI 29) = true then (if inb b (nI 1) (nI 30) = true then (if inb c (nI 1) (nI 99) = true then (if inb d (nI 0) (nI 99) = true then (if w 2 = nI 4 then nI 2 else nI 0) else nI 1) else nI 1) else nI 1) else nI 1
theorem F_X12_cannotTreat (a b c d : Int32) (v : gV) : f_X12_cannotTreat a b c d v = yTre (v.1 560) a b c d := by
  simp (disch := omega) only [f_X12_cannotTreat_41, f_X12_cannotTreat_58, f_X12_cannotTreat_0, f_X12_cannotTreat, F_X12_in, li_0, li_1, li_2, li_3, li_4, li_5, li_6, li_7, li_8, li_9, li_10, li_11, li_12, li_29, li_30, li_32, li_33, li_35, li_42, li_43, li_45, li_47, li_48, li_50, li_57, li_58, li_59, li_60, li_61, li_63, li_64, li_67, li_68, li_72, li_78, li_79, li_80, li_97, li_99, li_100, li_101, li_102, li_103, li_105, li_108, li_109, li_110, li_111, li_112, li_114, li_115, li_116, li_117, li_118, li_119, li_120, li_121, li_126, li_216, li_232, li_240, li_264, li_300, li_1000, li_1000000, li_2147483647, nI_add, nI_mul, cl_n, vi_n, sub_n, bz, yTre]
  cases inb a (nI 0) (nI 29) <;> cases inb b (nI 1) (nI 30) <;> cases inb c (nI 1) (nI 99) <;> cases inb d (nI 0) (nI 99) <;> rfl
theorem P_X12_cannotTreat (a b c d : Int32) (v : gV) : p_X12_cannotTreat a b c d v := by
  simp only [p_X12_cannotTreat_41, p_X12_cannotTreat_58, p_X12_cannotTreat_0, p_X12_cannotTreat, P_X12_in, implies_true, and_self]
def mTre (w : Nat → Int32) (n : Nat) (a b c d : Int32) : Nat → Int32 := upd (upd (upd (upd (upd w (216 + 4 * n + 0) a) (216 + 4 * n + 1) b) (216 + 4 * n + 2) c) 7 (w 7 - d)) 2 (nI (n + 1))
theorem K_X12_treats (a b c d : Int32) (v : gV) {n : Nat} (h0 : v.1 560 2 = nI n) (hn : n < 4) : p_X12_treats a b c d v ∧ f_X12_treats a b c d v = (nI n, vRow v 560 (mTre (v.1 560) n a b c d)) := by
  unfold mTre
  constructor
  · simp (disch := omega) only [p_X12_treats_66, p_X12_treats_56, p_X12_treats_44, p_X12_treats_34, p_X12_treats_24, p_X12_treats_0, p_X12_treats, li_0, li_1, li_2, li_3, li_4, li_5, li_6, li_7, li_8, li_9, li_10, li_11, li_12, li_29, li_30, li_32, li_33, li_35, li_42, li_43, li_45, li_47, li_48, li_50, li_57, li_58, li_59, li_60, li_61, li_63, li_64, li_67, li_68, li_72, li_78, li_79, li_80, li_97, li_99, li_100, li_101, li_102, li_103, li_105, li_108, li_109, li_110, li_111, li_112, li_114, li_115, li_116, li_117, li_118, li_119, li_120, li_121, li_126, li_216, li_232, li_240, li_264, li_300, li_1000, li_1000000, li_2147483647, nI_add, nI_mul, cl_n, vi_n, sub_n, vM_rw, vRow_row, vRow_eq, h0, upd_is, upd_ne, and_self, implies_true]
  · simp (disch := omega) only [f_X12_treats_66, f_X12_treats_56, f_X12_treats_44, f_X12_treats_34, f_X12_treats_24, f_X12_treats_0, f_X12_treats, li_0, li_1, li_2, li_3, li_4, li_5, li_6, li_7, li_8, li_9, li_10, li_11, li_12, li_29, li_30, li_32, li_33, li_35, li_42, li_43, li_45, li_47, li_48, li_50, li_57, li_58, li_59, li_60, li_61, li_63, li_64, li_67, li_68, li_72, li_78, li_79, li_80, li_97, li_99, li_100, li_101, li_102, li_103, li_105, li_108, li_109, li_110, li_111, li_112, li_114, li_115, li_116, li_117, li_118, li_119, li_120, li_121, li_126, li_216, li_232, li_240, li_264, li_300, li_1000, li_1000000, li_2147483647, nI_add, nI_mul, cl_n, vi_n, sub_n, vM_rw, vRow_row, vRow_eq, h0, upd_is, upd_ne, Nat.add_sub_cancel]
theorem F_X12_isTreaty (x : Int32) (v : gV) {n : Nat} (h0 : v.1 560 2 = nI n) (hn : n ≤ 4) : f_X12_isTreaty x v = if inx x (nI n) = true then nI 1 else nI 0 := by
  simp (disch := omega) only [f_X12_isTreaty_0, f_X12_isTreaty, li_0, li_1, li_2, li_3, li_4, li_5, li_6, li_7, li_8, li_9, li_10, li_11, li_12, li_29, li_30, li_32, li_33, li_35, li_42, li_43, li_45, li_47, li_48, li_50, li_57, li_58, li_59, li_60, li_61, li_63, li_64, li_67, li_68, li_72, li_78, li_79, li_80, li_97, li_99, li_100, li_101, li_102, li_103, li_105, li_108, li_109, li_110, li_111, li_112, li_114, li_115, li_116, li_117, li_118, li_119, li_120, li_121, li_126, li_216, li_232, li_240, li_264, li_300, li_1000, li_1000000, li_2147483647, cl_n, F_X12_in, h0]
  rw [inb_inx (by omega)]
theorem P_X12_isTreaty (x : Int32) (v : gV) : p_X12_isTreaty x v := by
  simp only [p_X12_isTreaty_0, p_X12_isTreaty, P_X12_in, F_X12_in, li_0, li_1, li_2, li_3, li_4, li_5, li_6, li_7, li_8, li_9, li_10, li_11, li_12, li_29, li_30, li_32, li_33, li_35, li_42, li_43, li_45, li_47, li_48, li_50, li_57, li_58, li_59, li_60, li_61, li_63, li_64, li_67, li_68, li_72, li_78, li_79, li_80, li_97, li_99, li_100, li_101, li_102, li_103, li_105, li_108, li_109, li_110, li_111, li_112, li_114, li_115, li_116, li_117, li_118, li_119, li_120, li_121, li_126, li_216, li_232, li_240, li_264, li_300, li_1000, li_1000000, li_2147483647, bz01, and_self]
theorem L_X12_cannotVoid (t : Nat) (v : gV) {n : Nat} (ht : t < 4) (h0 : v.1 560 1 = nI n) (hn : n ≤ 12) : ∀ (m k fuel : Nat), k + m = n → m < fuel → p_X12_cannotVoid_12 fuel (nI t) (nI k) v ∧ f_X12_cannotVoid_12 fuel (nI t) (nI k) v = if (ff (fun i => !decide (v.1 560 (72 + 12 * i + (6 + t)) ≤ nI 0)) m k).isSome = true then nI 2 else nI 0 := by
  intro m
  induction m with
  | zero =>
    intro k fuel hk hf
    obtain ⟨f, rfl⟩ := fuel_s hf
    have hc : nI n ≤ nI k := nI_le (by omega) (by omega)
    rw [p_X12_cannotVoid_12, f_X12_cannotVoid_12, li_1, cl_n (by omega), h0, if_pos hc, ff_0]
    exact ⟨⟨fun _ => trivial, fun h => absurd hc h⟩, rfl⟩
  | succ m ih =>
    intro k fuel hk hf
    obtain ⟨f, rfl⟩ := fuel_s hf
    have hc : ¬ nI n ≤ nI k := nI_ge (by omega) (by omega)
    have hi := ih (k + 1) f (by omega) (by omega)
    rw [p_X12_cannotVoid_12, f_X12_cannotVoid_12, li_1, cl_n (by omega), h0, if_neg hc, li_6, nI_add, F_X12_c v (by omega), nI_add, ff_s]
    by_cases hq : v.1 560 (72 + 12 * k + (6 + t)) ≤ nI 0
    · rw [if_pos (show v.1 560 (72 + 12 * k + (6 + t)) ≤ 0 from hq)]
      simp only [decide_eq_true hq, Bool.not_true, Bool.false_eq_true, if_false]
      exact ⟨⟨fun h => absurd h hc, fun _ => ⟨P_X12_c v (by omega), fun _ => hi.1, fun h => absurd hq h⟩⟩, hi.2⟩
    · rw [if_neg (show ¬ v.1 560 (72 + 12 * k + (6 + t)) ≤ 0 from hq)]
      simp only [decide_eq_false hq, Bool.not_false, if_true, Option.isSome_some]
      exact ⟨⟨fun h => absurd h hc, fun _ => ⟨P_X12_c v (by omega), fun h => absurd h hq, fun _ => trivial⟩⟩, rfl⟩
/-- whether a claim has coins of treaty t -/
def hct (w : Nat → Int32) (n t : Nat) : Bool := (ff (fun i => !decide (w (72 + 12 * i + (6 + t)) ≤ nI 0)) n 0).isSome
def yVoi (w : Nat → Int32) (nt nc : Nat) (x : Int32) : Int32 := if inx x (nI nt) = true then (if hct w nc x.toNatClampNeg = true then nI 2 else nI 0) else nI 1
theorem K_X12_cannotVoid (x : Int32) (v : gV) {nt nc : Nat} (h2 : v.1 560 2 = nI nt) (ht : nt ≤ 4) (h1 : v.1 560 1 = nI nc) (hc : nc ≤ 12) : p_X12_cannotVoid x v ∧ f_X12_cannotVoid x v = yVoi (v.1 560) nt nc x := by
  simp only [f_X12_cannotVoid_0, p_X12_cannotVoid_0, f_X12_cannotVoid, p_X12_cannotVoid, P_X12_isTreaty, F_X12_isTreaty x v h2 ht, li_0, li_1, li_2, li_3, li_4, li_5, li_6, li_7, li_8, li_9, li_10, li_11, li_12, li_29, li_30, li_32, li_33, li_35, li_42, li_43, li_45, li_47, li_48, li_50, li_57, li_58, li_59, li_60, li_61, li_63, li_64, li_67, li_68, li_72, li_78, li_79, li_80, li_97, li_99, li_100, li_101, li_102, li_103, li_105, li_108, li_109, li_110, li_111, li_112, li_114, li_115, li_116, li_117, li_118, li_119, li_120, li_121, li_126, li_216, li_232, li_240, li_264, li_300, li_1000, li_1000000, li_2147483647, bz, true_and]
  unfold yVoi
  cases hx : inx x (nI nt) with
  | false =>
    rw [if_pos rfl, if_neg Bool.false_ne_true]
    exact ⟨⟨fun _ => trivial, fun h => absurd rfl h⟩, rfl⟩
  | true =>
    rw [if_neg (fun h => by cases h), if_pos rfl]
    obtain ⟨t, htt, rfl⟩ := inx_n (by omega) hx
    have hi := L_X12_cannotVoid t v (by omega) h1 hc nc 0 5000 (by omega) (by omega)
    rw [cl_n (by omega)]
    exact ⟨⟨fun h => (by cases h), fun _ => hi.1⟩, hi.2⟩
/-- the parts of the claim k when the treaty t of n is taken out -/
def vo1 (w : Nat → Int32) (k t n : Nat) : Nat → Int32 := upd (shf w (72 + 12 * k + 6 + t) (72 + 12 * k + 6 + (n - 1)) 1) (72 + 12 * k + 6 + (n - 1)) (nI 0)
theorem L_X12_voids2 (K : Int32 → Int32 → Int32 → gV → Int32 × gV) (PK : Int32 → Int32 → Int32 → gV → Prop) (x1 x2 x3 : Int32) {n a : Nat} (hn : n < 4) (ha : a + n < 300) (ha2 : 2 < a) : ∀ (m i fuel : Nat) (v : gV), i + m = n → m < fuel → v.1 560 2 = nI n → PK x1 x2 (x3 + 1) (vRow v 560 (upd (shf (v.1 560) (a + i) (a + n) 1) (a + n) (nI 0))) → p_X12_voids_59 K PK fuel x1 x2 x3 (nI a) (nI i) v ∧ f_X12_voids_59 K fuel x1 x2 x3 (nI a) (nI i) v = K x1 x2 (x3 + 1) (vRow v 560 (upd (shf (v.1 560) (a + i) (a + n) 1) (a + n) (nI 0))) := by
  intro m
  induction m with
  | zero =>
    intro i fuel v hk hf h2 hp
    obtain ⟨f, rfl⟩ := fuel_s hf
    have hc : nI n ≤ nI i := nI_le (by omega) (by omega)
    rw [show a + i = a + n by omega, shf_nil] at hp ⊢
    rw [p_X12_voids_59, f_X12_voids_59, li_2, cl_n (by omega), h2, if_pos hc, nI_add, cl_n (by omega), li_0]
    simp only [f_X12_voids_113, p_X12_voids_113, vM_rw]
    exact ⟨⟨fun _ => ⟨vi_n (by omega) (by omega), hp⟩, fun h => absurd hc h⟩, trivial⟩
  | succ m ih =>
    intro i fuel v hk hf h2 hp
    obtain ⟨f, rfl⟩ := fuel_s hf
    have hc : ¬ nI n ≤ nI i := nI_ge (by omega) (by omega)
    have hw : vRow (vM v 560 (a + i) (v.1 560 (a + i + 1))) 560 (upd (shf ((vM v 560 (a + i) (v.1 560 (a + i + 1))).1 560) (a + (i + 1)) (a + n) 1) (a + n) (nI 0)) = vRow v 560 (upd (shf (v.1 560) (a + i) (a + n) 1) (a + n) (nI 0)) := by
      rw [vM_rw, vRow_row, vRow_eq, show a + (i + 1) = a + i + 1 by omega, shf_s _ (by omega) (by omega)]
    have hi := ih (i + 1) f (vM v 560 (a + i) (v.1 560 (a + i + 1))) (by omega) (by omega) (by rw [vM_rw, vRow_eq, upd_ne (by omega)]; exact h2)
    rw [hw] at hi
    have hi := hi hp
    rw [p_X12_voids_59, f_X12_voids_59, li_2, cl_n (by omega), h2, if_neg hc]
    simp (disch := omega) only [f_X12_voids_92, p_X12_voids_92, nI_1, nI_add, li_1, cl_n]
    exact ⟨⟨fun h => absurd h hc, fun _ => ⟨vi_n (by omega) (by omega), vi_n (by omega) (by omega), hi.1⟩⟩, hi.2⟩
theorem L_X12_voids (x2 : Int32) {n nc t : Nat} (hn : n < 4) (ht : t ≤ n) (hnc : nc ≤ 12) : ∀ (m k fuel : Nat) (v : gV), k + m = nc → m < fuel → v.1 560 2 = nI n → v.1 560 1 = nI nc → p_X12_voids_34 fuel (nI t) x2 (nI k) v ∧ f_X12_voids_34 fuel (nI t) x2 (nI k) v = (x2, vRow v 560 (lp (fun k w => vo1 w k t (n + 1)) m k (v.1 560))) := by
  intro m
  induction m with
  | zero =>
    intro k fuel v hk hf h2 h1
    obtain ⟨f, rfl⟩ := fuel_s hf
    have hc : nI nc ≤ nI k := nI_le (by omega) (by omega)
    rw [p_X12_voids_34, f_X12_voids_34, li_1, cl_n (by omega), h1, if_pos hc, lp_0, vRow_self]
    exact ⟨⟨fun _ => trivial, fun h => absurd hc h⟩, rfl⟩
  | succ m ih =>
    intro k fuel v hk hf h2 h1
    obtain ⟨f, rfl⟩ := fuel_s hf
    have hc : ¬ nI nc ≤ nI k := nI_ge (by omega) (by omega)
    have hw : upd (shf (v.1 560) (72 + 12 * k + 6 + t) (72 + 12 * k + 6 + n) 1) (72 + 12 * k + 6 + n) (nI 0) = vo1 (v.1 560) k t (n + 1) := rfl
    have hi := ih (k + 1) f (vRow v 560 (vo1 (v.1 560) k t (n + 1))) (by omega) (by omega) (by rw [vRow_eq, ← hw, upd_ne (by omega), shf_out (by omega)]; exact h2) (by rw [vRow_eq, ← hw, upd_ne (by omega), shf_out (by omega)]; exact h1)
    rw [vRow_row, vRow_eq] at hi
    have h3 := L_X12_voids2 (fun x1 x2 x3 v => f_X12_voids_34 f x1 x2 x3 v) (fun x1 x2 x3 v => p_X12_voids_34 f x1 x2 x3 v) (nI t) x2 (nI k) (n := n) (a := 72 + 12 * k + 6) hn (by omega) (by omega) (n - t) t 5000 v (by omega) (by omega) h2 (by rw [hw, nI_1]; exact hi.1)
    rw [hw, nI_1, hi.2] at h3
    rw [p_X12_voids_34, f_X12_voids_34, li_1, cl_n (by omega), h1, if_neg hc, lp_s]
    simp only [li_0, li_1, li_2, li_3, li_4, li_5, li_6, li_7, li_8, li_9, li_10, li_11, li_12, li_29, li_30, li_32, li_33, li_35, li_42, li_43, li_45, li_47, li_48, li_50, li_57, li_58, li_59, li_60, li_61, li_63, li_64, li_67, li_68, li_72, li_78, li_79, li_80, li_97, li_99, li_100, li_101, li_102, li_103, li_105, li_108, li_109, li_110, li_111, li_112, li_114, li_115, li_116, li_117, li_118, li_119, li_120, li_121, li_126, li_216, li_232, li_240, li_264, li_300, li_1000, li_1000000, li_2147483647, nI_mul, nI_add]
    exact ⟨⟨fun h => absurd h hc, fun _ => h3.1⟩, h3.2⟩
def mVoi (w : Nat → Int32) (n nc t : Nat) : Nat → Int32 := lp (fun k w => vo1 w k t n) nc 0 (rmv (upd w 2 (nI (n - 1))) (216 + 4 * t) (216 + 4 * (n - 1)) 4)
theorem K_X12_voids (v : gV) {n nc t : Nat} (h2 : v.1 560 2 = nI n) (hn : n ≤ 4) (ht : t < n) (h1 : v.1 560 1 = nI nc) (hc : nc ≤ 12) : p_X12_voids (nI t) v ∧ f_X12_voids (nI t) v = (v.1 560 (216 + 4 * t + 2), vRow v 560 (mVoi (v.1 560) n nc t)) := by
  have h := L_X12_voids (v.1 560 (216 + 4 * t + 2)) (n := n - 1) (nc := nc) (t := t) (by omega) (by omega) hc nc 0 5000 (vRow v 560 (rmv (upd (v.1 560) 2 (nI (n - 1))) (216 + 4 * t) (216 + 4 * (n - 1)) 4)) (by omega) (by omega) (by rw [vRow_eq, rmv, fil_out (by omega), shf_out (by omega), upd_eq]) (by rw [vRow_eq, rmv, fil_out (by omega), shf_out (by omega), upd_ne (by omega)]; exact h1)
  rw [vRow_row, vRow_eq, show n - 1 + 1 = n by omega] at h
  constructor
  · simp (disch := omega) only [p_X12_voids_113, p_X12_voids_92, p_X12_voids_32, p_X12_voids_17, p_X12_voids_0, p_X12_voids, li_0, li_1, li_2, li_3, li_4, li_5, li_6, li_7, li_8, li_9, li_10, li_11, li_12, li_29, li_30, li_32, li_33, li_35, li_42, li_43, li_45, li_47, li_48, li_50, li_57, li_58, li_59, li_60, li_61, li_63, li_64, li_67, li_68, li_72, li_78, li_79, li_80, li_97, li_99, li_100, li_101, li_102, li_103, li_105, li_108, li_109, li_110, li_111, li_112, li_114, li_115, li_116, li_117, li_118, li_119, li_120, li_121, li_126, li_216, li_232, li_240, li_264, li_300, li_1000, li_1000000, li_2147483647, nI_add, nI_mul, cl_n, vi_n, sub_n, P_X12_t, F_X12_t, h2, vM_rw, vRow_eq, vRow_row, upd_is, true_and]
    refine ⟨P_X12_removeRow _ (by omega) rfl rfl (by omega) (by omega), ?_⟩
    rw [F_X12_removeRow _ (by omega) (rfl : 216 + 4 * t = _) rfl (by omega) (by omega), vRow_row, vRow_eq]
    exact h.1
  · simp (disch := omega) only [f_X12_voids_113, f_X12_voids_92, f_X12_voids_32, f_X12_voids_17, f_X12_voids_0, f_X12_voids, li_0, li_1, li_2, li_3, li_4, li_5, li_6, li_7, li_8, li_9, li_10, li_11, li_12, li_29, li_30, li_32, li_33, li_35, li_42, li_43, li_45, li_47, li_48, li_50, li_57, li_58, li_59, li_60, li_61, li_63, li_64, li_67, li_68, li_72, li_78, li_79, li_80, li_97, li_99, li_100, li_101, li_102, li_103, li_105, li_108, li_109, li_110, li_111, li_112, li_114, li_115, li_116, li_117, li_118, li_119, li_120, li_121, li_126, li_216, li_232, li_240, li_264, li_300, li_1000, li_1000000, li_2147483647, nI_add, nI_mul, cl_n, vi_n, sub_n, F_X12_t, h2, vM_rw, vRow_eq, vRow_row, upd_is]
    rw [F_X12_removeRow _ (by omega) (rfl : 216 + 4 * t = _) rfl (by omega) (by omega), vRow_row, vRow_eq]
    exact h.2
