/-! the class' helpers, in closed form -/
def inb (x l m : Int32) : Bool := decide (l ≤ x) && decide (x ≤ m)
theorem inb_t {x l m : Int32} : inb x l m = true ↔ l.toInt ≤ x.toInt ∧ x.toInt ≤ m.toInt := by
  unfold inb
  rw [Bool.and_eq_true, decide_eq_true_iff, decide_eq_true_iff, i_le, i_le]
theorem inb_f {x l m : Int32} : inb x l m = false ↔ ¬ (l.toInt ≤ x.toInt ∧ x.toInt ≤ m.toInt) := by
  rw [← inb_t, Bool.not_eq_true]
def inx (x n : Int32) : Bool := decide (nI 0 ≤ x) && decide (x < n)
theorem inx_t {x n : Int32} : inx x n = true ↔ 0 ≤ x.toInt ∧ x.toInt < n.toInt := by
  unfold inx
  rw [Bool.and_eq_true, decide_eq_true_iff, decide_eq_true_iff, i_le, i_lt, nI_0]
  exact Iff.rfl
theorem inx_n {x : Int32} {n : Nat} (hn : n < 2147483648) (h : inx x (nI n) = true) : ∃ k, k < n ∧ x = nI k := by
  rw [inx_t, tI hn] at h
  exact nI_ofI h.1 h.2
theorem inx_nI {k n : Nat} (hn : n < 2147483648) (h : k < n) : inx (nI k) (nI n) = true := by
  rw [inx_t, tI hn, tI (by omega)]
  omega
/-- a treaty's or an offer's index, as the model looks at it -/
theorem inb_inx {x : Int32} {n : Nat} (hn : n < 2147483648) : inb x (nI 0) (nI n - nI 1) = inx x (nI n) := by
  have h1 : (nI n - nI 1).toInt = (n : Int) - 1 := by
    rw [ti_sub (by rw [tI hn, tI (by omega)]; omega) (by rw [tI hn, tI (by omega)]; omega), tI hn, tI (by omega)]
    rfl
  rw [Bool.eq_iff_iff, inb_t, inx_t, h1, tI hn, tI (by omega)]
  omega
theorem F_X11_checkedNumber (x l m : Int32) (v : gV) : f_X11_checkedNumber x l m v = if inb x l m = true then Sum.inl x else Sum.inr "java/lang/IllegalArgumentException" := by
  have hi := @inb_t x l m
  simp only [f_X11_checkedNumber_10, f_X11_checkedNumber_0, f_X11_checkedNumber]
  by_cases h1 : x < l
  · rw [if_pos h1, if_neg (by rw [hi]; rw [i_lt] at h1; omega)]
  · by_cases h2 : x ≤ m
    · rw [if_neg h1, if_pos h2, if_pos (by rw [hi]; rw [i_lt] at h1; rw [i_le] at h2; omega)]
    · rw [if_neg h1, if_neg h2, if_neg (by rw [hi]; rw [i_lt] at h1; rw [i_le] at h2; omega)]
theorem P_X11_checkedNumber (x l m : Int32) (v : gV) : p_X11_checkedNumber x l m v := by
  simp only [p_X11_checkedNumber_10, p_X11_checkedNumber_0, p_X11_checkedNumber, implies_true, and_self]
theorem F_X11_checkedIndex (x n : Int32) (v : gV) : f_X11_checkedIndex x n v = if inx x n = true then Sum.inl x else Sum.inr "java/lang/IndexOutOfBoundsException" := by
  have hi := @inx_t x n
  have h0 : (0 : Int32).toInt = 0 := rfl
  simp only [f_X11_checkedIndex_9, f_X11_checkedIndex_0, f_X11_checkedIndex]
  by_cases h1 : x < 0
  · rw [if_pos h1, if_neg (by rw [hi]; rw [i_lt, h0] at h1; omega)]
  · by_cases h2 : x < n
    · rw [if_neg h1, if_pos h2, if_pos (by rw [hi]; rw [i_lt, h0] at h1; rw [i_lt] at h2; omega)]
    · rw [if_neg h1, if_neg h2, if_neg (by rw [hi]; rw [i_lt, h0] at h1; rw [i_lt] at h2; omega)]
theorem P_X11_checkedIndex (x n : Int32) (v : gV) : p_X11_checkedIndex x n v := by
  simp only [p_X11_checkedIndex_9, p_X11_checkedIndex_0, p_X11_checkedIndex, implies_true, and_self]
theorem F_X11_freePlace (x n : Int32) (v : gV) : f_X11_freePlace x n v = if inx x n = true then Sum.inl x else Sum.inr "java/lang/IllegalStateException" := by
  have hi := @inx_t x n
  have h0 : (0 : Int32).toInt = 0 := rfl
  simp only [f_X11_freePlace_9, f_X11_freePlace_0, f_X11_freePlace]
  by_cases h1 : x < 0
  · rw [if_pos h1, if_neg (by rw [hi]; rw [i_lt, h0] at h1; omega)]
  · by_cases h2 : x < n
    · rw [if_neg h1, if_pos h2, if_pos (by rw [hi]; rw [i_lt, h0] at h1; rw [i_lt] at h2; omega)]
    · rw [if_neg h1, if_neg h2, if_neg (by rw [hi]; rw [i_lt, h0] at h1; rw [i_lt] at h2; omega)]
theorem P_X11_freePlace (x n : Int32) (v : gV) : p_X11_freePlace x n v := by
  simp only [p_X11_freePlace_9, p_X11_freePlace_0, p_X11_freePlace, implies_true, and_self]
def isC (x : Int32) : Bool := decide (x = nI 114) || decide (x = nI 103) || decide (x = nI 119) || decide (x = nI 102)
theorem F_X11_isCause (x : Int32) (v : gV) : f_X11_isCause x v = if isC x = true then nI 1 else nI 0 := by
  simp only [f_X11_isCause_29, f_X11_isCause_24, f_X11_isCause_0, f_X11_isCause, li_0, li_1, li_2, li_3, li_4, li_5, li_6, li_7, li_8, li_9, li_10, li_11, li_12, li_29, li_30, li_32, li_33, li_35, li_42, li_43, li_45, li_47, li_48, li_50, li_57, li_58, li_59, li_60, li_61, li_63, li_64, li_67, li_68, li_72, li_78, li_79, li_80, li_97, li_99, li_100, li_101, li_102, li_103, li_105, li_108, li_109, li_110, li_111, li_112, li_114, li_115, li_116, li_117, li_118, li_119, li_120, li_121, li_126, li_216, li_232, li_240, li_264, li_300, li_1000, li_1000000, li_2147483647, isC, Bool.or_eq_true, decide_eq_true_iff]
  by_cases h1 : x = nI 114
  · simp only [h1, if_true, true_or]
  · by_cases h2 : x = nI 103
    · subst h2; decide +kernel
    · by_cases h3 : x = nI 119
      · subst h3; decide +kernel
      · by_cases h4 : x = nI 102
        · subst h4; decide +kernel
        · simp only [h1, h2, h3, h4, if_true, if_false, true_or, or_true, false_or, reduceIte, or_false]
theorem P_X11_isCause (x : Int32) (v : gV) : p_X11_isCause x v := by
  simp only [p_X11_isCause_29, p_X11_isCause_24, p_X11_isCause_0, p_X11_isCause, or_true, true_or, and_self, implies_true]
/-- a sum over a row -/
def sm (r : Nat → Int32) (n : Nat) : Int32 := lp (fun i a => a + r i) n 0 (nI 0)
theorem sm_congr {r q : Nat → Int32} {n : Nat} (h : ∀ i, i < n → r i = q i) : sm r n = sm q n := lp_congr n 0 _ fun i a _ hi => by rw [h i (by omega)]
theorem L_X11_sumOfRow (j N : Nat) (v : gV) {n : Nat} (hn : n ≤ N) (hN : N < 4000) : ∀ (m k fuel : Nat) (a : Int32), k + m = n → m < fuel → p_X11_sumOfRow_4 j N fuel (nI n) a (nI k) v ∧ f_X11_sumOfRow_4 j N fuel (nI n) a (nI k) v = lp (fun i a => a + v.1 j i) m k a := by
  intro m
  induction m with
  | zero =>
    intro k fuel a hk hf
    obtain ⟨f, rfl⟩ := fuel_s hf
    have hc : nI n ≤ nI k := nI_le (by omega) (by omega)
    simp only [p_X11_sumOfRow_4, f_X11_sumOfRow_4, hc, if_true, not_true_eq_false, false_implies, implies_true, and_self, lp_0]
  | succ m ih =>
    intro k fuel a hk hf
    obtain ⟨f, rfl⟩ := fuel_s hf
    have hc : ¬ nI n ≤ nI k := nI_ge (by omega) (by omega)
    have hi := ih (k + 1) f (a + v.1 j k) (by omega) (by omega)
    rw [p_X11_sumOfRow_4, f_X11_sumOfRow_4, if_neg hc, cl_n (by omega), nI_1, lp_s]
    exact ⟨⟨fun h => absurd h hc, fun _ => ⟨vi_n (by omega) (by omega), hi.1⟩⟩, hi.2⟩
theorem F_X11_sumOfRow (j N : Nat) (v : gV) {n : Nat} (hn : n ≤ N) (hN : N < 4000) : f_X11_sumOfRow j N (nI n) v = sm (v.1 j) n := (L_X11_sumOfRow j N v hn hN n 0 5000 (nI 0) (by omega) (by omega)).2
theorem P_X11_sumOfRow (j N : Nat) (v : gV) {n : Nat} (hn : n ≤ N) (hN : N < 4000) : p_X11_sumOfRow j N (nI n) v := (L_X11_sumOfRow j N v hn hN n 0 5000 (nI 0) (by omega) (by omega)).1
/-- the place of an id -/
def fid (r : Nat → Int32) (n : Nat) (x : Int32) : Option Nat := ff (fun i => decide (r i = x)) n 0
theorem fid_congr {r q : Nat → Int32} {n : Nat} {x : Int32} (h : ∀ i, i < n → r i = q i) : fid r n x = fid q n x := ff_congr n 0 fun i _ hi => by rw [h i (by omega)]
theorem fid_some {r : Nat → Int32} {n k : Nat} {x : Int32} (h : fid r n x = some k) : k < n ∧ r k = x := by
  obtain ⟨-, h1, h2, -⟩ := ff_some n 0 k h
  exact ⟨by omega, of_decide_eq_true h2⟩
theorem fid_none {r : Nat → Int32} {n : Nat} {x : Int32} (h : fid r n x = none) : ∀ i, i < n → ¬ r i = x := fun i hi => of_decide_eq_false (ff_none n 0 h i (by omega) (by omega))
theorem fid_is {r : Nat → Int32} {n k : Nat} {x : Int32} (hk : k < n) (h : r k = x) : ∃ i, fid r n x = some i := by
  cases e : fid r n x with
  | none => exact absurd h (fid_none e k hk)
  | some i => exact ⟨i, rfl⟩
theorem L_X11_find (j N : Nat) (x : Int32) (v : gV) {n : Nat} (hn : n ≤ N) (hN : N < 4000) : ∀ (m k fuel : Nat), k + m = n → m < fuel → p_X11_find_2 j N fuel (nI n) x (nI k) v ∧ f_X11_find_2 j N fuel (nI n) x (nI k) v = oN (ff (fun i => decide (v.1 j i = x)) m k) := by
  intro m
  induction m with
  | zero =>
    intro k fuel hk hf
    obtain ⟨f, rfl⟩ := fuel_s hf
    have hc : nI n ≤ nI k := nI_le (by omega) (by omega)
    rw [p_X11_find_2, f_X11_find_2, if_pos hc, ff_0]
    exact ⟨⟨fun _ => trivial, fun h => absurd hc h⟩, rfl⟩
  | succ m ih =>
    intro k fuel hk hf
    obtain ⟨f, rfl⟩ := fuel_s hf
    have hc : ¬ nI n ≤ nI k := nI_ge (by omega) (by omega)
    have hi := ih (k + 1) f (by omega) (by omega)
    rw [p_X11_find_2, f_X11_find_2, if_neg hc, cl_n (by omega), nI_1, ff_s]
    by_cases hq : v.1 j k = x
    · rw [if_pos hq, if_pos (decide_eq_true hq)]
      exact ⟨⟨fun h => absurd h hc, fun _ => ⟨vi_n (by omega) (by omega), fun _ => trivial, fun h => absurd hq h⟩⟩, rfl⟩
    · rw [if_neg hq, if_neg (by rw [decide_eq_true_iff]; exact hq)]
      exact ⟨⟨fun h => absurd h hc, fun _ => ⟨vi_n (by omega) (by omega), fun h => absurd h hq, fun _ => hi.1⟩⟩, hi.2⟩
theorem F_X11_find (j N : Nat) (x : Int32) (v : gV) {n : Nat} (hn : n ≤ N) (hN : N < 4000) : f_X11_find j N (nI n) x v = oN (fid (v.1 j) n x) := (L_X11_find j N x v hn hN n 0 5000 (by omega) (by omega)).2
theorem P_X11_find (j N : Nat) (x : Int32) (v : gV) {n : Nat} (hn : n ≤ N) (hN : N < 4000) : p_X11_find j N (nI n) x v := (L_X11_find j N x v hn hN n 0 5000 (by omega) (by omega)).1
/-- a row copied -/
def cpy (f g : Nat → Int32) (n : Nat) : Nat → Int32 := fun k => if k < n then f k else g k
theorem cpy_lt {f g : Nat → Int32} {n k : Nat} (h : k < n) : cpy f g n k = f k := if_pos h
theorem F_X11_copyRow (j i N : Nat) (v : gV) (hN : N < 4000) : f_X11_copyRow j N i N v = vRow v i (cpy (v.1 j) (v.1 i) N) := by
  have h : va_cpy (v.1 j) (v.1 i) 0 0 N = cpy (v.1 j) (v.1 i) N := by
    funext k
    unfold va_cpy cpy
    by_cases hk : k < N
    · rw [if_pos (by omega), if_pos hk, Nat.zero_add, Nat.sub_zero]
    · rw [if_neg (by omega), if_neg hk]
  simp only [f_X11_copyRow_14, f_X11_copyRow_0, f_X11_copyRow]
  rw [ite_self, cl_n (by omega), h]
theorem P_X11_copyRow (j i N : Nat) (v : gV) (hN : N < 4000) : p_X11_copyRow j N i N v := by
  simp only [p_X11_copyRow_14, p_X11_copyRow_0, p_X11_copyRow]
  rw [ite_self, cl_n (by omega)]
  exact ⟨nI_pos (by omega), Nat.le_refl _, Nat.le_refl _, trivial⟩
/-- a gap closed -/
def gap (r : Nat → Int32) (k n : Nat) : Nat → Int32 := fun i => if k ≤ i ∧ i < n then r (i + 1) else r i
theorem gap_lo {r : Nat → Int32} {k n i : Nat} (h : i < k) : gap r k n i = r i := if_neg (by omega)
theorem gap_hi {r : Nat → Int32} {k n i : Nat} (h : k ≤ i) (hn : i < n) : gap r k n i = r (i + 1) := if_pos ⟨h, hn⟩
theorem L_X11_closeGap (j N : Nat) (hN : N < 4000) : ∀ (m k fuel : Nat) (v : gV), k + m + 1 = N → m < fuel → p_X11_closeGap_2 j N fuel (nI k) v ∧ f_X11_closeGap_2 j N fuel (nI k) v = vRow v j (gap (v.1 j) k (N - 1)) := by
  intro m
  induction m with
  | zero =>
    intro k fuel v hk hf
    obtain ⟨f, rfl⟩ := fuel_s hf
    have hp : ¬ nI k < 0 := nI_pos (by omega)
    have hc : nI N - (1 : Int32) ≤ nI k := by
      rw [li_1, sub_n (by omega)]
      exact nI_le (by omega) (by omega)
    have hg : gap (v.1 j) k (N - 1) = v.1 j := by
      funext i
      exact if_neg (by omega)
    rw [p_X11_closeGap_2, f_X11_closeGap_2, if_neg hp, if_pos hc, hg, vRow_self]
    exact ⟨⟨fun h => absurd h hp, fun _ => ⟨fun _ => trivial, fun h => absurd hc h⟩⟩, rfl⟩
  | succ m ih =>
    intro k fuel v hk hf
    obtain ⟨f, rfl⟩ := fuel_s hf
    have hp : ¬ nI k < 0 := nI_pos (by omega)
    have hc : ¬ nI N - (1 : Int32) ≤ nI k := by
      rw [li_1, sub_n (by omega)]
      exact nI_ge (by omega) (by omega)
    have hi := ih (k + 1) f (vM v j k (v.1 j (k + 1))) (by omega) (by omega)
    have hg : vRow (vM v j k (v.1 j (k + 1))) j (gap ((vM v j k (v.1 j (k + 1))).1 j) (k + 1) (N - 1)) = vRow v j (gap (v.1 j) k (N - 1)) := by
      rw [vM_rw, vRow_row, vRow_eq]
      congr 1
      funext i
      unfold gap
      rw [upd_at, upd_at]
      by_cases h1 : i = k
      · rw [if_neg (by omega), if_pos h1, if_pos (by omega), h1]
      · by_cases h2 : k + 1 ≤ i ∧ i < N - 1
        · rw [if_pos h2, if_neg (by omega), if_pos (by omega)]
        · rw [if_neg h2, if_neg h1, if_neg (by omega)]
    rw [p_X11_closeGap_2, f_X11_closeGap_2, if_neg hp, if_neg hc, li_1, nI_add, cl_n (by omega), cl_n (by omega), ← hg]
    simp only [f_X11_closeGap_28, p_X11_closeGap_28, f_X11_closeGap_22, p_X11_closeGap_22, f_X11_closeGap_0, p_X11_closeGap_0, f_X11_closeGap, p_X11_closeGap, nI_1]
    exact ⟨⟨fun h => absurd h hp, fun _ => ⟨fun h => absurd h (by rw [← li_1]; exact hc), fun _ => ⟨vi_n (by omega) (by omega), vi_n (by omega) (by omega), hi.1⟩⟩⟩, hi.2⟩
theorem F_X11_closeGap (j N : Nat) (v : gV) {k : Nat} (hk : k < N) (hN : N < 4000) : f_X11_closeGap j N (nI k) v = vRow v j (gap (v.1 j) k (N - 1)) := (L_X11_closeGap j N hN (N - 1 - k) k 5000 v (by omega) (by omega)).2
theorem P_X11_closeGap (j N : Nat) (v : gV) {k : Nat} (hk : k < N) (hN : N < 4000) : p_X11_closeGap j N (nI k) v := (L_X11_closeGap j N hN (N - 1 - k) k 5000 v (by omega) (by omega)).1
/-- a row filled -/
def fil (r : Nat → Int32) (x : Int32) (k n : Nat) : Nat → Int32 := fun i => if k ≤ i ∧ i < n then x else r i
theorem L_J7_fill (j N : Nat) (x : Int32) (hN : N < 4000) : ∀ (m k fuel : Nat) (v : gV), k + m = N → m < fuel → p_J7_fill_53178_5 j N fuel x (nI k) (nI N) v ∧ f_J7_fill_53178_5 j N fuel x (nI k) (nI N) v = vRow v j (fil (v.1 j) x k N) := by
  intro m
  induction m with
  | zero =>
    intro k fuel v hk hf
    obtain ⟨f, rfl⟩ := fuel_s hf
    have hc : nI N ≤ nI k := nI_le (by omega) (by omega)
    have hg : fil (v.1 j) x k N = v.1 j := by
      funext i
      exact if_neg (by omega)
    rw [p_J7_fill_53178_5, f_J7_fill_53178_5, if_pos hc, hg, vRow_self]
    exact ⟨⟨fun _ => trivial, fun h => absurd hc h⟩, rfl⟩
  | succ m ih =>
    intro k fuel v hk hf
    obtain ⟨f, rfl⟩ := fuel_s hf
    have hc : ¬ nI N ≤ nI k := nI_ge (by omega) (by omega)
    have hi := ih (k + 1) f (vM v j k x) (by omega) (by omega)
    have hg : vRow (vM v j k x) j (fil ((vM v j k x).1 j) x (k + 1) N) = vRow v j (fil (v.1 j) x k N) := by
      rw [vM_rw, vRow_row, vRow_eq]
      congr 1
      funext i
      unfold fil
      rw [upd_at]
      by_cases h1 : i = k
      · rw [if_neg (by omega), if_pos h1, if_pos (by omega)]
      · by_cases h2 : k + 1 ≤ i ∧ i < N
        · rw [if_pos h2, if_pos (by omega)]
        · rw [if_neg h2, if_neg h1, if_neg (by omega)]
    rw [p_J7_fill_53178_5, f_J7_fill_53178_5, if_neg hc, cl_n (by omega), ← hg]
    simp only [f_J7_fill_53178_14, p_J7_fill_53178_14, nI_1]
    exact ⟨⟨fun h => absurd h hc, fun _ => ⟨vi_n (by omega) (by omega), hi.1⟩⟩, hi.2⟩
theorem F_J7_fill (j N : Nat) (x : Int32) (v : gV) (hN : N < 4000) : f_J7_fill_53178 j N x v = vRow v j (fil (v.1 j) x 0 N) := (L_J7_fill j N x hN N 0 5000 v (by omega) (by omega)).2
theorem P_J7_fill (j N : Nat) (x : Int32) (v : gV) (hN : N < 4000) : p_J7_fill_53178 j N x v := (L_J7_fill j N x hN N 0 5000 v (by omega) (by omega)).1
