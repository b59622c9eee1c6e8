/-! THE PURE PART: numbers, rows, loops -/
theorem vM_rw (v : gV) (j k : Nat) (x : Int32) : vM v j k x = vRow v j (upd (v.1 j) k x) := rfl
theorem vRow_at (v : gV) (j i : Nat) (f : Nat → Int32) : (vRow v j f).1 i = if i = j then f else v.1 i := rfl
theorem vRow_eq (v : gV) (j : Nat) (f : Nat → Int32) : (vRow v j f).1 j = f := if_pos rfl
theorem vRow_ne (v : gV) {j i : Nat} (f : Nat → Int32) (h : ¬ i = j) : (vRow v j f).1 i = v.1 i := if_neg h
theorem vRow_two (v : gV) (j : Nat) (f : Nat → Int32) : (vRow v j f).2 = v.2 := rfl
theorem vRow_self (v : gV) (j : Nat) : vRow v j (v.1 j) = v := by
  have h : upr v.1 j (v.1 j) = v.1 := by
    funext a
    unfold upr
    by_cases h : a = j
    · rw [if_pos h, h]
    · rw [if_neg h]
  unfold vRow
  rw [h]
theorem vRow_row (v : gV) (j : Nat) (f g : Nat → Int32) : vRow (vRow v j f) j g = vRow v j g := by
  have h : upr (upr v.1 j f) j g = upr v.1 j g := by
    funext a
    unfold upr
    by_cases h : a = j
    · rw [if_pos h, if_pos h]
    · rw [if_neg h, if_neg h, if_neg h]
  show (upr (upr v.1 j f) j g, v.2) = _
  rw [h]
  rfl
theorem vL_one (v : gV) (j k : Nat) (x : Int64) : (vL v j k x).1 = v.1 := rfl
theorem vL_two (v : gV) (j k i : Nat) (x : Int64) : (vL v j k x).2.1 i = if i = j then vp_updL (v.2.1 j) k x else v.2.1 i := rfl
theorem vF_one (v : gV) (k : Nat) (x : UInt64) : (vF v k x).1 = v.1 := rfl
theorem vF_two (v : gV) (k : Nat) (x : UInt64) : (vF v k x).2.1 = v.2.1 := rfl
theorem upd_at (f : Nat → Int32) (k i : Nat) (x : Int32) : upd f k x i = if i = k then x else f i := rfl
theorem upd_ne {f : Nat → Int32} {k i : Nat} {x : Int32} (h : ¬ i = k) : upd f k x i = f i := if_neg h
theorem upd_is {f : Nat → Int32} {k i : Nat} {x : Int32} (h : i = k) : upd f k x i = x := if_pos h
theorem upd_eq (f : Nat → Int32) (k : Nat) (x : Int32) : upd f k x k = x := if_pos rfl
/-! numbers -/
theorem li_0 : (0 : Int32) = nI 0 := rfl
theorem li_1 : (1 : Int32) = nI 1 := rfl
theorem li_2 : (2 : Int32) = nI 2 := rfl
theorem li_3 : (3 : Int32) = nI 3 := rfl
theorem li_4 : (4 : Int32) = nI 4 := rfl
theorem li_5 : (5 : Int32) = nI 5 := rfl
theorem li_6 : (6 : Int32) = nI 6 := rfl
theorem li_7 : (7 : Int32) = nI 7 := rfl
theorem li_8 : (8 : Int32) = nI 8 := rfl
theorem li_9 : (9 : Int32) = nI 9 := rfl
theorem li_10 : (10 : Int32) = nI 10 := rfl
theorem li_11 : (11 : Int32) = nI 11 := rfl
theorem li_12 : (12 : Int32) = nI 12 := rfl
theorem li_29 : (29 : Int32) = nI 29 := rfl
theorem li_30 : (30 : Int32) = nI 30 := rfl
theorem li_32 : (32 : Int32) = nI 32 := rfl
theorem li_33 : (33 : Int32) = nI 33 := rfl
theorem li_35 : (35 : Int32) = nI 35 := rfl
theorem li_42 : (42 : Int32) = nI 42 := rfl
theorem li_43 : (43 : Int32) = nI 43 := rfl
theorem li_45 : (45 : Int32) = nI 45 := rfl
theorem li_47 : (47 : Int32) = nI 47 := rfl
theorem li_48 : (48 : Int32) = nI 48 := rfl
theorem li_50 : (50 : Int32) = nI 50 := rfl
theorem li_57 : (57 : Int32) = nI 57 := rfl
theorem li_58 : (58 : Int32) = nI 58 := rfl
theorem li_59 : (59 : Int32) = nI 59 := rfl
theorem li_60 : (60 : Int32) = nI 60 := rfl
theorem li_61 : (61 : Int32) = nI 61 := rfl
theorem li_63 : (63 : Int32) = nI 63 := rfl
theorem li_64 : (64 : Int32) = nI 64 := rfl
theorem li_67 : (67 : Int32) = nI 67 := rfl
theorem li_68 : (68 : Int32) = nI 68 := rfl
theorem li_72 : (72 : Int32) = nI 72 := rfl
theorem li_78 : (78 : Int32) = nI 78 := rfl
theorem li_79 : (79 : Int32) = nI 79 := rfl
theorem li_80 : (80 : Int32) = nI 80 := rfl
theorem li_97 : (97 : Int32) = nI 97 := rfl
theorem li_99 : (99 : Int32) = nI 99 := rfl
theorem li_100 : (100 : Int32) = nI 100 := rfl
theorem li_101 : (101 : Int32) = nI 101 := rfl
theorem li_102 : (102 : Int32) = nI 102 := rfl
theorem li_103 : (103 : Int32) = nI 103 := rfl
theorem li_105 : (105 : Int32) = nI 105 := rfl
theorem li_108 : (108 : Int32) = nI 108 := rfl
theorem li_109 : (109 : Int32) = nI 109 := rfl
theorem li_110 : (110 : Int32) = nI 110 := rfl
theorem li_111 : (111 : Int32) = nI 111 := rfl
theorem li_112 : (112 : Int32) = nI 112 := rfl
theorem li_114 : (114 : Int32) = nI 114 := rfl
theorem li_115 : (115 : Int32) = nI 115 := rfl
theorem li_116 : (116 : Int32) = nI 116 := rfl
theorem li_117 : (117 : Int32) = nI 117 := rfl
theorem li_118 : (118 : Int32) = nI 118 := rfl
theorem li_119 : (119 : Int32) = nI 119 := rfl
theorem li_120 : (120 : Int32) = nI 120 := rfl
theorem li_121 : (121 : Int32) = nI 121 := rfl
theorem li_126 : (126 : Int32) = nI 126 := rfl
theorem li_216 : (216 : Int32) = nI 216 := rfl
theorem li_232 : (232 : Int32) = nI 232 := rfl
theorem li_240 : (240 : Int32) = nI 240 := rfl
theorem li_264 : (264 : Int32) = nI 264 := rfl
theorem li_300 : (300 : Int32) = nI 300 := rfl
theorem li_1000 : (1000 : Int32) = nI 1000 := rfl
theorem li_1000000 : (1000000 : Int32) = nI 1000000 := rfl
theorem li_2147483647 : (2147483647 : Int32) = nI 2147483647 := rfl
theorem cl_n {n : Nat} (h : n < 2147483648) : (nI n).toNatClampNeg = n := nI_clamp (by omega)
theorem vi_n {n N : Nat} (h : n < N) (hN : N < 2147483648) : vp_in (nI n) N := vp_in_nI h (by omega)
theorem sub_n {a b : Nat} (h : b ≤ a) : nI a - nI b = nI (a - b) := nI_subN h
theorem le_n {a b : Nat} (ha : a < 2147483648) (hb : b < 2147483648) : nI a ≤ nI b ↔ a ≤ b := nI_leI (by omega) (by omega)
theorem lt_n {a b : Nat} (ha : a < 2147483648) (hb : b < 2147483648) : nI a < nI b ↔ a < b := nI_ltI (by omega) (by omega)
theorem eq_n {a b : Nat} (ha : a < 2147483648) (hb : b < 2147483648) : nI a = nI b ↔ a = b := nI_eq (by omega) (by omega)
theorem tI {n : Nat} (h : n < 2147483648) : (nI n).toInt = (n : Int) := nI_toInt (by omega)
theorem nI_mul (a b : Nat) : nI a * nI b = nI (a * b) := (Int32.ofNat_mul a b).symm
theorem ti_add {a b : Int32} (h1 : -2147483648 ≤ a.toInt + b.toInt) (h2 : a.toInt + b.toInt < 2147483648) : (a + b).toInt = a.toInt + b.toInt := by
  rw [Int32.toInt_add]
  exact Int.bmod_eq_of_le (by omega) (by omega)
theorem ti_sub {a b : Int32} (h1 : -2147483648 ≤ a.toInt - b.toInt) (h2 : a.toInt - b.toInt < 2147483648) : (a - b).toInt = a.toInt - b.toInt := by
  rw [Int32.toInt_sub]
  exact Int.bmod_eq_of_le (by omega) (by omega)
theorem ti_mul {a b : Int32} (h1 : -2147483648 ≤ a.toInt * b.toInt) (h2 : a.toInt * b.toInt < 2147483648) : (a * b).toInt = a.toInt * b.toInt := by
  rw [Int32.toInt_mul]
  exact Int.bmod_eq_of_le (by omega) (by omega)
theorem ti_div {a b : Int32} (h : b ≠ -1) : (a / b).toInt = a.toInt.tdiv b.toInt := Int32.toInt_div_of_ne_right a b h
theorem ti_lo (a : Int32) : -2147483648 ≤ a.toInt := Int32.le_toInt a
theorem ti_hi (a : Int32) : a.toInt < 2147483648 := Int32.toInt_lt a
theorem i_lt {a b : Int32} : a < b ↔ a.toInt < b.toInt := Int32.lt_iff_toInt_lt
theorem i_le {a b : Int32} : a ≤ b ↔ a.toInt ≤ b.toInt := Int32.le_iff_toInt_le
theorem i_eq {a b : Int32} : a = b ↔ a.toInt = b.toInt := Int32.toInt_inj.symm
theorem i_nn {x : Int32} (h : 0 ≤ x.toInt) : x = nI x.toInt.toNat := by
  refine Int32.toInt_inj.mp ?_
  have := Int32.toInt_lt x
  rw [nI_toInt (by omega)]
  omega
theorem nI_ofI {x : Int32} {m : Nat} (h0 : 0 ≤ x.toInt) (h1 : x.toInt < m) : ∃ n, n < m ∧ x = nI n := ⟨x.toInt.toNat, by omega, i_nn h0⟩
theorem ti_neg1 : (-1 : Int32).toInt = -1 := by decide +kernel
theorem ne_neg1 {n : Nat} (h : n < 2 ^ 31) : ¬ nI n = -1 := by
  rw [i_eq, ti_neg1, nI_toInt h]
  omega
/-! loops: n turns from k on -/
def lp {α : Type} (g : Nat → α → α) : Nat → Nat → α → α
  | 0, _, a => a
  | m + 1, k, a => lp g m (k + 1) (g k a)
theorem lp_0 {α : Type} (g : Nat → α → α) (k : Nat) (a : α) : lp g 0 k a = a := rfl
theorem lp_s {α : Type} (g : Nat → α → α) (m k : Nat) (a : α) : lp g (m + 1) k a = lp g m (k + 1) (g k a) := rfl
theorem lp_congr {α : Type} {g h : Nat → α → α} : ∀ (m k : Nat) (a : α), (∀ i a, k ≤ i → i < k + m → g i a = h i a) → lp g m k a = lp h m k a := by
  intro m
  induction m with
  | zero => intro k a _; rfl
  | succ m ih =>
    intro k a hh
    rw [lp_s, lp_s, hh k a (Nat.le_refl _) (by omega)]
    exact ih (k + 1) (h k a) fun i a h1 h2 => hh i a (by omega) (by omega)
theorem lp_last {α : Type} (g : Nat → α → α) : ∀ (m k : Nat) (a : α), lp g (m + 1) k a = g (k + m) (lp g m k a) := by
  intro m
  induction m with
  | zero => intro k a; rfl
  | succ m ih =>
    intro k a
    rw [lp_s, ih (k + 1) (g k a), lp_s, show k + 1 + m = k + (m + 1) by omega]
theorem lp_inv {α : Type} {g : Nat → α → α} (P : Nat → α → Prop) : ∀ (m k : Nat) (a : α), P k a → (∀ i a, k ≤ i → i < k + m → P i a → P (i + 1) (g i a)) → P (k + m) (lp g m k a) := by
  intro m
  induction m with
  | zero => intro k a h0 _; exact h0
  | succ m ih =>
    intro k a h0 hs
    have := ih (k + 1) (g k a) (hs k a (Nat.le_refl _) (by omega) h0) fun i a h1 h2 => hs i a (by omega) (by omega)
    rw [show k + 1 + m = k + (m + 1) by omega] at this
    exact this
/-- two loops side by side -/
theorem lp_inv2 {α β : Type} {g : Nat → α → α} {h : Nat → β → β} (P : Nat → α → β → Prop) : ∀ (m k : Nat) (a : α) (b : β), P k a b → (∀ i a b, k ≤ i → i < k + m → P i a b → P (i + 1) (g i a) (h i b)) → P (k + m) (lp g m k a) (lp h m k b) := by
  intro m
  induction m with
  | zero => intro k a b h0 _; exact h0
  | succ m ih =>
    intro k a b h0 hs
    have := ih (k + 1) (g k a) (h k b) (hs k a b (Nat.le_refl _) (by omega) h0) fun i a b h1 h2 => hs i a b (by omega) (by omega)
    rw [show k + 1 + m = k + (m + 1) by omega] at this
    exact this
/-- the first of n places from k on -/
def ff (c : Nat → Bool) : Nat → Nat → Option Nat
  | 0, _ => none
  | m + 1, k => if c k = true then some k else ff c m (k + 1)
theorem ff_0 (c : Nat → Bool) (k : Nat) : ff c 0 k = none := rfl
theorem ff_s (c : Nat → Bool) (m k : Nat) : ff c (m + 1) k = if c k = true then some k else ff c m (k + 1) := rfl
theorem ff_congr {c d : Nat → Bool} : ∀ (m k : Nat), (∀ i, k ≤ i → i < k + m → c i = d i) → ff c m k = ff d m k := by
  intro m
  induction m with
  | zero => intro k _; rfl
  | succ m ih =>
    intro k h
    rw [ff_s, ff_s, h k (Nat.le_refl _) (by omega), ih (k + 1) fun i h1 h2 => h i (by omega) (by omega)]
theorem ff_none {c : Nat → Bool} : ∀ (m k : Nat), ff c m k = none → ∀ i, k ≤ i → i < k + m → c i = false := by
  intro m
  induction m with
  | zero => intro k _ i h1 h2; omega
  | succ m ih =>
    intro k h i h1 h2
    rw [ff_s] at h
    by_cases hc : c k = true
    · rw [if_pos hc] at h; cases h
    · rw [if_neg hc] at h
      rcases Nat.eq_or_lt_of_le h1 with rfl | h3
      · exact Bool.eq_false_iff.mpr hc
      · exact ih (k + 1) h i h3 (by omega)
theorem ff_some {c : Nat → Bool} : ∀ (m k i : Nat), ff c m k = some i → k ≤ i ∧ i < k + m ∧ c i = true ∧ ∀ j, k ≤ j → j < i → c j = false := by
  intro m
  induction m with
  | zero => intro k i h; cases h
  | succ m ih =>
    intro k i h
    rw [ff_s] at h
    by_cases hc : c k = true
    · rw [if_pos hc] at h
      cases h
      exact ⟨Nat.le_refl _, by omega, hc, fun j h1 h2 => by omega⟩
    · rw [if_neg hc] at h
      obtain ⟨h1, h2, h3, h4⟩ := ih (k + 1) i h
      refine ⟨by omega, by omega, h3, fun j h5 h6 => ?_⟩
      rcases Nat.eq_or_lt_of_le h5 with rfl | h7
      · exact Bool.eq_false_iff.mpr hc
      · exact h4 j h7 h6
def oN : Option Nat → Int32
  | none => -1
  | some i => nI i
theorem fuel_s {fuel m : Nat} (h : m < fuel) : ∃ f, fuel = f + 1 := ⟨fuel - 1, by omega⟩
/-! calls whose answer is an answer or a thrown class -/
theorem el_l {α β γ : Type} (f : α → γ) (g : β → γ) (a : α) : Sum.elim f g (Sum.inl a) = f a := rfl
theorem el_r {α β γ : Type} (f : α → γ) (g : β → γ) (b : β) : Sum.elim f g (Sum.inr b) = g b := rfl
