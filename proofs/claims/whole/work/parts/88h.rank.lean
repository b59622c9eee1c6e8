/-! ranks -/
def ahP (w : Nat → Int32) (i k : Nat) : Bool := if w (8 + 8 * i + 1) * w (8 + 8 * i + 2) = w (8 + 8 * k + 1) * w (8 + 8 * k + 2) then (if w (8 + 8 * i + 5) = w (8 + 8 * k + 5) then decide (i < k) else !decide (w (8 + 8 * i + 5) ≤ w (8 + 8 * k + 5))) else !decide (w (8 + 8 * i + 1) * w (8 + 8 * i + 2) ≤ w (8 + 8 * k + 1) * w (8 + 8 * k + 2))
def ahC (w : Nat → Int32) (i k : Nat) : Bool := if w (72 + 12 * i + 3) - w (72 + 12 * i + 4) = w (72 + 12 * k + 3) - w (72 + 12 * k + 4) then decide (i < k) else !decide (w (72 + 12 * i + 3) - w (72 + 12 * i + 4) ≤ w (72 + 12 * k + 3) - w (72 + 12 * k + 4))
def b01 (c : Bool) : Int32 := if c = true then nI 1 else nI 0
theorem b01_or (c : Bool) : b01 c = 0 ∨ b01 c = 1 := by
  cases c
  · exact Or.inl rfl
  · exact Or.inr rfl
theorem b01_0 {c : Bool} : b01 c = 0 ↔ c = false := by
  cases c with
  | false => exact ⟨fun _ => rfl, fun _ => rfl⟩
  | true => exact ⟨fun h => absurd h n10, fun h => by cases h⟩
theorem b01_ite {c : Prop} (d : Decidable c) : (if c then (0 : Int32) else 1) = b01 (!decide c) := by
  by_cases h : c
  · rw [if_pos h, decide_eq_true h]
    rfl
  · rw [if_neg h, decide_eq_false h]
    rfl
theorem i_nle {a b : Int32} : ¬ a ≤ b ↔ b < a := by
  rw [i_le, i_lt]
  omega
/-- ids ascend -/
theorem id_le {w : Nat → Int32} {n st ba i k : Nat} (ha : ∀ j k, j < k → k < n → (w (ba + st * j)).toInt < (w (ba + st * k)).toInt) (hi : i < n) (hk : k < n) : w (ba + st * k) ≤ w (ba + st * i) ↔ ¬ i < k := by
  rw [i_le]
  constructor
  · intro h hlt
    have := ha i k hlt hk
    omega
  · intro h
    by_cases e : k = i
    · subst e
      exact Int.le_refl _
    · have := ha k i (by omega) hi
      omega
theorem K_ahP {B : Nat} {v : gV} {w : Nat → Int32} {n i k : Nat} (hn : n ≤ 8) (wp : WFp B w n) (bp : BRp v 1 w n) (hi : i < n) (hk : k < n) : p_X5_isAhead 1 (nI i) (nI k) v ∧ f_X5_isAhead 1 (nI i) (nI k) v = b01 (ahP w i k) := by
  have hid := id_le (w := w) (ba := 8) (st := 8) wp.2 hi hk
  have hci : (nI i).toNatClampNeg = i := cl_n (by omega)
  have hck : (nI k).toNatClampNeg = k := cl_n (by omega)
  have hvi : vp_in (nI i) 8 := vi_n (by omega) (by omega)
  have hvk : vp_in (nI k) 8 := vi_n (by omega) (by omega)
  have q0 : p_X5_isAhead_103 1 (0 : Int32) v := And.intro (Or.inl rfl) trivial
  have q1 : p_X5_isAhead_103 1 (1 : Int32) v := And.intro (Or.inr rfl) trivial
  have q2 : p_X5_isAhead_82 1 (0 : Int32) v := And.intro (Or.inl rfl) trivial
  have q3 : p_X5_isAhead_82 1 (1 : Int32) v := And.intro (Or.inr rfl) trivial
  have q4 : p_X5_isAhead_46 1 (0 : Int32) v := And.intro (Or.inl rfl) trivial
  have q5 : p_X5_isAhead_46 1 (1 : Int32) v := And.intro (Or.inr rfl) trivial
  constructor
  · show p_X5_isAhead_0 1 (nI i) (nI k) v
    rw [p_X5_isAhead_0]
    exact ⟨hvi, hvi, hvk, hvk, fun _ => ⟨hvi, hvk, fun _ => ⟨hvi, hvk, fun _ => q0, fun _ => q1⟩, fun _ => ⟨hvi, hvk, fun _ => q2, fun _ => q3⟩⟩, fun _ => ⟨fun _ => q4, fun _ => q5⟩⟩
  · show f_X5_isAhead_0 1 (nI i) (nI k) v = _
    obtain ⟨a1, a2, a3, a4, a5, a6, a7⟩ := bp i hi
    obtain ⟨c1, c2, c3, c4, c5, c6, c7⟩ := bp k hk
    rw [f_X5_isAhead_0]
    simp only [f_X5_isAhead_103, f_X5_isAhead_82, f_X5_isAhead_46, hci, hck, a1, a2, a3, a6, c1, c2, c3, c6]
    unfold ahP
    by_cases h1 : w (8 + 8 * i + 1) * w (8 + 8 * i + 2) = w (8 + 8 * k + 1) * w (8 + 8 * k + 2)
    · rw [if_pos h1, if_pos h1]
      by_cases h2 : w (8 + 8 * i + 5) = w (8 + 8 * k + 5)
      · rw [if_pos h2, if_pos h2]
        by_cases h3 : i < k
        · rw [if_neg (fun h => hid.mp h h3), decide_eq_true h3]
          rfl
        · rw [if_pos (hid.mpr h3), decide_eq_false h3]
          rfl
      · rw [if_neg h2, if_neg h2]
        exact b01_ite _
    · rw [if_neg h1, if_neg h1]
      exact b01_ite _
theorem K_ahP12 {u : gV} {w : Nat → Int32} {i k : Nat} (hw : u.1 560 = w) (hi : i < 8) (hk : k < 8) : p_X12_isPolicyAhead (nI i) (nI k) u ∧ f_X12_isPolicyAhead (nI i) (nI k) u = b01 (ahP w i k) := by
  have P : ∀ j o : Nat, j < 8 → o < 8 → p_X12_p (nI j) (nI o) u := fun j o hj ho => P_X12_p u (by omega)
  have F : ∀ j o : Nat, j < 8 → o < 8 → f_X12_p (nI j) (nI o) u = w (8 + 8 * j + o) := fun j o hj ho => by rw [F_X12_p u (by omega), hw]
  have q0 : p_X12_isPolicyAhead_86 u := And.intro (Or.inl rfl) trivial
  have q1 : p_X12_isPolicyAhead_82 u := And.intro (Or.inr rfl) trivial
  have q4 : p_X12_isPolicyAhead_46 (0 : Int32) u := And.intro (Or.inl rfl) trivial
  have q5 : p_X12_isPolicyAhead_46 (1 : Int32) u := And.intro (Or.inr rfl) trivial
  have i1 : f_X12_p (nI i) (1 : Int32) u = w (8 + 8 * i + 1) := F i 1 hi (by omega)
  have i2 : f_X12_p (nI i) (2 : Int32) u = w (8 + 8 * i + 2) := F i 2 hi (by omega)
  have i5 : f_X12_p (nI i) (5 : Int32) u = w (8 + 8 * i + 5) := F i 5 hi (by omega)
  have k1 : f_X12_p (nI k) (1 : Int32) u = w (8 + 8 * k + 1) := F k 1 hk (by omega)
  have k2 : f_X12_p (nI k) (2 : Int32) u = w (8 + 8 * k + 2) := F k 2 hk (by omega)
  have k5 : f_X12_p (nI k) (5 : Int32) u = w (8 + 8 * k + 5) := F k 5 hk (by omega)
  constructor
  · show p_X12_isPolicyAhead_0 (nI i) (nI k) u
    rw [p_X12_isPolicyAhead_0]
    exact ⟨P i 1 hi (by omega), P i 2 hi (by omega), P k 1 hk (by omega), P k 2 hk (by omega), fun _ => ⟨P i 5 hi (by omega), P k 5 hk (by omega), fun _ => q1, fun _ => ⟨P i 5 hi (by omega), P k 5 hk (by omega), fun _ => ⟨fun _ => q0, fun _ => q1⟩, fun _ => q0⟩⟩, fun _ => ⟨fun _ => q4, fun _ => q5⟩⟩
  · show f_X12_isPolicyAhead_0 (nI i) (nI k) u = _
    have f86 : f_X12_isPolicyAhead_86 u = 0 := rfl
    have f82 : f_X12_isPolicyAhead_82 u = 1 := rfl
    rw [f_X12_isPolicyAhead_0]
    simp only [f86, f82, f_X12_isPolicyAhead_46, i1, i2, i5, k1, k2, k5]
    unfold ahP
    by_cases h1 : w (8 + 8 * i + 1) * w (8 + 8 * i + 2) = w (8 + 8 * k + 1) * w (8 + 8 * k + 2)
    · rw [if_pos h1, if_pos h1]
      by_cases h2 : w (8 + 8 * i + 5) = w (8 + 8 * k + 5)
      · have h2' : ¬ w (8 + 8 * k + 5) < w (8 + 8 * i + 5) := by
          rw [h2, i_lt]
          omega
        rw [if_neg h2', if_pos h2, if_pos h2]
        by_cases h3 : i < k
        · rw [if_neg (by rw [le_n (by omega) (by omega)]; omega), decide_eq_true h3]
          rfl
        · rw [if_pos (by rw [le_n (by omega) (by omega)]; omega), decide_eq_false h3]
          rfl
      · rw [if_neg h2, if_neg h2]
        by_cases h3 : w (8 + 8 * i + 5) ≤ w (8 + 8 * k + 5)
        · rw [if_neg (by rw [← i_nle]; exact fun h => h h3), decide_eq_true h3]
          rfl
        · rw [if_pos (i_nle.mp h3), decide_eq_false h3]
          rfl
    · rw [if_neg h1, if_neg h1]
      exact b01_ite _
theorem K_ahC {v : gV} {w : Nat → Int32} {np n nt i k : Nat} (hn : n ≤ 12) (wc : WFc w np n nt) (bc : BRc v 1 w n) (hi : i < n) (hk : k < n) : p_X2_isAhead 1 (nI i) (nI k) v ∧ f_X2_isAhead 1 (nI i) (nI k) v = b01 (ahC w i k) := by
  have hid := id_le (w := w) (ba := 72) (st := 12) wc.2 hi hk
  have hci : (nI i).toNatClampNeg = i := cl_n (by omega)
  have hck : (nI k).toNatClampNeg = k := cl_n (by omega)
  have hvi : vp_in (nI i) 12 := vi_n (by omega) (by omega)
  have hvk : vp_in (nI k) 12 := vi_n (by omega) (by omega)
  have q0 : p_X2_isAhead_52 1 (0 : Int32) v := And.intro (Or.inl rfl) trivial
  have q1 : p_X2_isAhead_52 1 (1 : Int32) v := And.intro (Or.inr rfl) trivial
  have q2 : p_X2_isAhead_31 1 (0 : Int32) v := And.intro (Or.inl rfl) trivial
  have q3 : p_X2_isAhead_31 1 (1 : Int32) v := And.intro (Or.inr rfl) trivial
  have ui : p_X2_unpaidAt 1 (nI i) v := And.intro hvi (And.intro hvi trivial)
  have uk : p_X2_unpaidAt 1 (nI k) v := And.intro hvk (And.intro hvk trivial)
  obtain ⟨a1, a2, a3, a4, a5, a6⟩ := bc i hi
  obtain ⟨c1, c2, c3, c4, c5, c6⟩ := bc k hk
  have fi : f_X2_unpaidAt 1 (nI i) v = w (72 + 12 * i + 3) - w (72 + 12 * i + 4) := by
    show v.1 (1 + 14) (nI i).toNatClampNeg - v.1 (1 + 15) (nI i).toNatClampNeg = _
    rw [hci, a4, a5]
  have fk : f_X2_unpaidAt 1 (nI k) v = w (72 + 12 * k + 3) - w (72 + 12 * k + 4) := by
    show v.1 (1 + 14) (nI k).toNatClampNeg - v.1 (1 + 15) (nI k).toNatClampNeg = _
    rw [hck, c4, c5]
  constructor
  · show p_X2_isAhead_0 1 (nI i) (nI k) v
    rw [p_X2_isAhead_0]
    exact ⟨ui, uk, fun _ => ⟨hvi, hvk, fun _ => q0, fun _ => q1⟩, fun _ => ⟨ui, uk, fun _ => q2, fun _ => q3⟩⟩
  · show f_X2_isAhead_0 1 (nI i) (nI k) v = _
    rw [f_X2_isAhead_0]
    simp only [f_X2_isAhead_52, f_X2_isAhead_31, hci, hck, a1, c1, fi, fk]
    unfold ahC
    by_cases h1 : w (72 + 12 * i + 3) - w (72 + 12 * i + 4) = w (72 + 12 * k + 3) - w (72 + 12 * k + 4)
    · rw [if_pos h1, if_pos h1]
      by_cases h3 : i < k
      · rw [if_neg (fun h => hid.mp h h3), decide_eq_true h3]
        rfl
      · rw [if_pos (hid.mpr h3), decide_eq_false h3]
        rfl
    · rw [if_neg h1, if_neg h1]
      exact b01_ite _
theorem K_ahC12 {u : gV} {w : Nat → Int32} {i k : Nat} (hw : u.1 560 = w) (hi : i < 12) (hk : k < 12) : p_X12_isClaimAhead (nI i) (nI k) u ∧ f_X12_isClaimAhead (nI i) (nI k) u = b01 (ahC w i k) := by
  have P : ∀ j o : Nat, j < 12 → o < 12 → p_X12_c (nI j) (nI o) u := fun j o hj ho => P_X12_c u (by omega)
  have F : ∀ j o : Nat, j < 12 → o < 12 → f_X12_c (nI j) (nI o) u = w (72 + 12 * j + o) := fun j o hj ho => by rw [F_X12_c u (by omega), hw]
  have q0 : p_X12_isClaimAhead_50 u := And.intro (Or.inl rfl) trivial
  have q1 : p_X12_isClaimAhead_46 u := And.intro (Or.inr rfl) trivial
  have i3 : f_X12_c (nI i) (3 : Int32) u = w (72 + 12 * i + 3) := F i 3 hi (by omega)
  have i4 : f_X12_c (nI i) (4 : Int32) u = w (72 + 12 * i + 4) := F i 4 hi (by omega)
  have k3 : f_X12_c (nI k) (3 : Int32) u = w (72 + 12 * k + 3) := F k 3 hk (by omega)
  have k4 : f_X12_c (nI k) (4 : Int32) u = w (72 + 12 * k + 4) := F k 4 hk (by omega)
  constructor
  · show p_X12_isClaimAhead_0 (nI i) (nI k) u
    rw [p_X12_isClaimAhead_0]
    exact ⟨P i 3 hi (by omega), P i 4 hi (by omega), P k 3 hk (by omega), P k 4 hk (by omega), fun _ => q1, fun _ => ⟨fun _ => ⟨fun _ => q0, fun _ => q1⟩, fun _ => q0⟩⟩
  · show f_X12_isClaimAhead_0 (nI i) (nI k) u = _
    have f50 : f_X12_isClaimAhead_50 u = 0 := rfl
    have f46 : f_X12_isClaimAhead_46 u = 1 := rfl
    rw [f_X12_isClaimAhead_0]
    simp only [f50, f46, i3, i4, k3, k4]
    unfold ahC
    by_cases h1 : w (72 + 12 * i + 3) - w (72 + 12 * i + 4) = w (72 + 12 * k + 3) - w (72 + 12 * k + 4)
    · have h1' : ¬ w (72 + 12 * k + 3) - w (72 + 12 * k + 4) < w (72 + 12 * i + 3) - w (72 + 12 * i + 4) := by
        rw [h1, i_lt]
        omega
      rw [if_neg h1', if_pos h1, if_pos h1]
      by_cases h3 : i < k
      · rw [if_neg (by rw [le_n (by omega) (by omega)]; omega), decide_eq_true h3]
        rfl
      · rw [if_pos (by rw [le_n (by omega) (by omega)]; omega), decide_eq_false h3]
        rfl
    · rw [if_neg h1, if_neg h1]
      by_cases h3 : w (72 + 12 * i + 3) - w (72 + 12 * i + 4) ≤ w (72 + 12 * k + 3) - w (72 + 12 * k + 4)
      · rw [if_neg (by rw [← i_nle]; exact fun h => h h3), decide_eq_true h3]
        rfl
      · rw [if_pos (i_nle.mp h3), decide_eq_false h3]
        rfl
theorem ahP_self (w : Nat → Int32) (k : Nat) : ahP w k k = false := by
  unfold ahP
  rw [if_pos rfl, if_pos rfl]
  exact decide_eq_false (Nat.lt_irrefl k)
theorem ahC_self (w : Nat → Int32) (k : Nat) : ahC w k k = false := by
  unfold ahC
  rw [if_pos rfl]
  exact decide_eq_false (Nat.lt_irrefl k)
def cntS (ah : Nat → Nat → Bool) (k i a : Nat) : Nat := if ah i k = true then a + 1 else a
def cnt (ah : Nat → Nat → Bool) (k n : Nat) : Nat := lp (cntS ah k) n 0 0
def rnk (ah : Nat → Nat → Bool) (n : Nat) (x : Int32) (k : Nat) : Bool := decide (nI (cnt ah k n) = x)
theorem L_cntP {B : Nat} {v : gV} {w : Nat → Int32} {n : Nat} (s : v.1 2 1 = nI n) (hn : n ≤ 8) (wp : WFp B w n) (bp : BRp v 1 w n) {k : Nat} (hk : k < n) : ∀ (m i fuel a : Nat), i + m = n → m < fuel → p_X6_countAhead_P_4 1 fuel (nI k) (nI a) (nI i) v ∧ f_X6_countAhead_P_4 1 fuel (nI k) (nI a) (nI i) v = nI (lp (cntS (ahP w) k) m i a) := by
  intro m
  induction m with
  | zero =>
    intro i fuel a hi hf
    obtain ⟨f, rfl⟩ := fuel_s hf
    have hle : nI n ≤ nI i := nI_le (by omega) (by omega)
    have s' : v.1 (1 + 1) 1 = nI n := s
    rw [p_X6_countAhead_P_4, f_X6_countAhead_P_4, s', if_pos hle]
    exact ⟨⟨fun _ => trivial, fun h => absurd hle h⟩, rfl⟩
  | succ m ih =>
    intro i fuel a hi hf
    obtain ⟨f, rfl⟩ := fuel_s hf
    have hle : ¬ nI n ≤ nI i := nI_ge (by omega) (by omega)
    have s' : v.1 (1 + 1) 1 = nI n := s
    obtain ⟨a1, a2⟩ := K_ahP hn wp bp (i := i) (k := k) (by omega) hk
    have hih := ih (i + 1) f (cntS (ahP w) k i a) (by omega) (by omega)
    rw [p_X6_countAhead_P_4, f_X6_countAhead_P_4, s', if_neg hle, a2, lp_s]
    simp only [f_X6_countAhead_P_24, p_X6_countAhead_P_24, nI_1]
    unfold cntS at hih ⊢
    cases hah : ahP w i k with
    | false =>
      rw [hah, if_neg Bool.false_ne_true] at hih
      rw [if_pos (show b01 false = 0 from rfl), if_neg Bool.false_ne_true]
      exact ⟨⟨fun h => absurd h hle, fun _ => ⟨a1, fun _ => hih.1, fun h => absurd rfl h⟩⟩, hih.2⟩
    | true =>
      rw [hah, if_pos rfl] at hih
      have hb : ¬ b01 true = 0 := n10
      rw [if_neg hb, if_pos rfl]
      exact ⟨⟨fun h => absurd h hle, fun _ => ⟨a1, fun h => absurd h hb, fun _ => hih.1⟩⟩, hih.2⟩
theorem L_rankP {B : Nat} {v : gV} {w : Nat → Int32} {n : Nat} (s : v.1 2 1 = nI n) (hn : n ≤ 8) (wp : WFp B w n) (bp : BRp v 1 w n) (x : Int32) : ∀ (m k fuel : Nat), k + m = n → m < fuel → p_X6_idAtRank_P_2 1 fuel x (nI k) v ∧ f_X6_idAtRank_P_2 1 fuel x (nI k) v = (ff (rnk (ahP w) n x) m k).elim (Sum.inr "java/util/NoSuchElementException") fun k => Sum.inl (w (8 + 8 * k)) := by
  intro m
  induction m with
  | zero =>
    intro k fuel hk hf
    obtain ⟨f, rfl⟩ := fuel_s hf
    have hle : nI n ≤ nI k := nI_le (by omega) (by omega)
    have s' : v.1 (1 + 1) 1 = nI n := s
    rw [p_X6_idAtRank_P_2, f_X6_idAtRank_P_2, s', if_pos hle]
    exact ⟨⟨fun _ => trivial, fun h => absurd hle h⟩, rfl⟩
  | succ m ih =>
    intro k fuel hk hf
    obtain ⟨f, rfl⟩ := fuel_s hf
    have hle : ¬ nI n ≤ nI k := nI_ge (by omega) (by omega)
    have s' : v.1 (1 + 1) 1 = nI n := s
    obtain ⟨c1, c2⟩ := L_cntP s hn wp bp (k := k) (by omega) n 0 5000 0 (by omega) (by omega)
    have c1' : p_X6_countAhead_P 1 (nI k) v := c1
    have c2' : f_X6_countAhead_P 1 (nI k) v = nI (cnt (ahP w) k n) := c2
    have hv : vp_in (nI k) 8 := vi_n (by omega) (by omega)
    have hid : v.1 (1 + 2) (nI k).toNatClampNeg = w (8 + 8 * k) := by
      rw [cl_n (by omega)]
      exact (bp k (by omega)).1
    obtain ⟨i1, i2⟩ := ih (k + 1) f (by omega) (by omega)
    rw [p_X6_idAtRank_P_2, f_X6_idAtRank_P_2, s', if_neg hle, c2', ff_s, hid, nI_1]
    by_cases hc : nI (cnt (ahP w) k n) = x
    · have hr : rnk (ahP w) n x k = true := decide_eq_true hc
      rw [if_pos hc, if_pos hr]
      exact ⟨⟨fun h => absurd h hle, fun _ => ⟨c1', fun _ => ⟨hv, trivial⟩, fun h => absurd hc h⟩⟩, rfl⟩
    · have hr : ¬ rnk (ahP w) n x k = true := by
        unfold rnk
        rw [decide_eq_true_iff]
        exact hc
      rw [if_neg hc, if_neg hr]
      exact ⟨⟨fun h => absurd h hle, fun _ => ⟨c1', fun h => absurd h hc, fun _ => i1⟩⟩, i2⟩
theorem L_rkP2 {u : gV} {w : Nat → Int32} {n k : Nat} (hw : u.1 560 = w) (hn : n ≤ 8) (hk : k < n) (x : Int32) (K8 : Int32 → Int32 → Int32 → Int32 → gV → Int32 × gV) (PK8 : Int32 → Int32 → Int32 → Int32 → gV → Prop) (hPK : ¬ nI (cnt (ahP w) k n) = x → PK8 x (nI n) (1 : Int32) (nI (k + 1)) u) : ∀ (m i fuel a : Nat), i + m = n → m < fuel → lp (cntS (ahP w) k) m i a = cnt (ahP w) k n → p_X12_ranked_20 K8 PK8 fuel x (nI n) (1 : Int32) (nI k) (nI a) (nI i) u ∧ f_X12_ranked_20 K8 fuel x (nI n) (1 : Int32) (nI k) (nI a) (nI i) u = if nI (cnt (ahP w) k n) = x then (w (8 + 8 * k), u) else K8 x (nI n) (1 : Int32) (nI (k + 1)) u := by
  have x30 : ¬ (1 : Int32) = 0 := n10
  have p0 : p_X12_p (nI k) (0 : Int32) u := P_X12_p u (k := k) (o := 0) (by omega)
  have f0 : f_X12_p (nI k) (0 : Int32) u = w (8 + 8 * k) := by
    rw [← hw]
    exact F_X12_p u (k := k) (o := 0) (by omega)
  intro m
  induction m with
  | zero =>
    intro i fuel a hi hf ha
    obtain ⟨f, rfl⟩ := fuel_s hf
    have hle : nI n ≤ nI i := nI_le (by omega) (by omega)
    have ha : a = cnt (ahP w) k n := ha
    rw [p_X12_ranked_20, f_X12_ranked_20, if_pos hle, ha, nI_1]
    simp only [f_X12_ranked_105, p_X12_ranked_105, f0]
    by_cases hc : nI (cnt (ahP w) k n) = x
    · rw [if_pos hc, if_pos hc, if_neg x30]
      exact ⟨⟨fun _ => ⟨fun _ => ⟨fun h => absurd h x30, fun _ => ⟨p0, trivial⟩⟩, fun h => absurd hc h⟩, fun h => absurd hle h⟩, rfl⟩
    · rw [if_neg hc, if_neg hc]
      exact ⟨⟨fun _ => ⟨fun h => absurd h hc, fun _ => hPK hc⟩, fun h => absurd hle h⟩, rfl⟩
  | succ m ih =>
    intro i fuel a hi hf ha
    obtain ⟨f, rfl⟩ := fuel_s hf
    have hle : ¬ nI n ≤ nI i := nI_ge (by omega) (by omega)
    obtain ⟨a1, a2⟩ := K_ahP12 (u := u) (i := i) (k := k) hw (by omega) (by omega)
    rw [lp_s] at ha
    obtain ⟨i1, i2⟩ := ih (i + 1) f (cntS (ahP w) k i a) (by omega) (by omega) ha
    have e0 : nI a + (0 : Int32) = nI a := Int32.add_zero _
    have e1 : nI a + (1 : Int32) = nI (a + 1) := nI_1 a
    rw [p_X12_ranked_20, f_X12_ranked_20, if_neg hle]
    simp only [f_X12_ranked_68, p_X12_ranked_68, f_X12_ranked_64, p_X12_ranked_64, f_X12_ranked_69, p_X12_ranked_69, nI_1, e0, e1]
    by_cases hik : nI i = nI k
    · have : i = k := (eq_n (by omega) (by omega)).mp hik
      subst this
      have hs : cntS (ahP w) i i a = a := if_neg (by rw [ahP_self]; exact Bool.false_ne_true)
      rw [hs] at i1 i2
      rw [if_pos rfl]
      exact ⟨⟨fun h => absurd h hle, fun _ => ⟨fun _ => i1, fun h => absurd rfl h⟩⟩, i2⟩
    · rw [if_neg hik, if_neg x30, a2]
      unfold cntS at i1 i2
      cases hah : ahP w i k with
      | false =>
        rw [hah, if_neg Bool.false_ne_true] at i1 i2
        rw [if_pos (show b01 false = 0 from rfl)]
        exact ⟨⟨fun h => absurd h hle, fun _ => ⟨fun h => absurd h hik, fun _ => ⟨fun h => absurd h x30, fun _ => ⟨a1, fun _ => i1, fun h => absurd rfl h⟩⟩⟩⟩, i2⟩
      | true =>
        rw [hah, if_pos rfl] at i1 i2
        have hb : ¬ b01 true = 0 := n10
        rw [if_neg hb]
        exact ⟨⟨fun h => absurd h hle, fun _ => ⟨fun h => absurd h hik, fun _ => ⟨fun h => absurd h x30, fun _ => ⟨a1, fun h => absurd h hb, fun _ => i1⟩⟩⟩⟩, i2⟩
theorem L_rkP {u : gV} {w : Nat → Int32} {n : Nat} (hw : u.1 560 = w) (hn : n ≤ 8) (x : Int32) : ∀ (m k fuel : Nat), k + m = n → m < fuel → p_X12_ranked_8 fuel x (nI n) (1 : Int32) (nI k) u ∧ f_X12_ranked_8 fuel x (nI n) (1 : Int32) (nI k) u = (ff (rnk (ahP w) n x) m k).elim (nI 0, thr u (nI 1)) fun k => (w (8 + 8 * k), u) := by
  intro m
  induction m with
  | zero =>
    intro k fuel hk hf
    obtain ⟨f, rfl⟩ := fuel_s hf
    have hle : nI n ≤ nI k := nI_le (by omega) (by omega)
    rw [p_X12_ranked_8, f_X12_ranked_8, if_pos hle]
    exact ⟨⟨fun _ => ⟨P_X12_fail _ _, trivial⟩, fun h => absurd hle h⟩, rfl⟩
  | succ m ih =>
    intro k fuel hk hf
    obtain ⟨f, rfl⟩ := fuel_s hf
    have hle : ¬ nI n ≤ nI k := nI_ge (by omega) (by omega)
    obtain ⟨i1, i2⟩ := ih (k + 1) f (by omega) (by omega)
    obtain ⟨b1, b2⟩ := L_rkP2 (u := u) (n := n) (k := k) hw hn (by omega) x (fun x1 x2 x3 x4 v => f_X12_ranked_8 f x1 x2 x3 x4 v) (fun x1 x2 x3 x4 v => p_X12_ranked_8 f x1 x2 x3 x4 v) (fun _ => i1) n 0 5000 0 (by omega) (by omega) rfl
    have b1' : p_X12_ranked_20 (fun x1 x2 x3 x4 v => f_X12_ranked_8 f x1 x2 x3 x4 v) (fun x1 x2 x3 x4 v => p_X12_ranked_8 f x1 x2 x3 x4 v) 5000 x (nI n) (1 : Int32) (nI k) (0 : Int32) (0 : Int32) u := b1
    have b2' : f_X12_ranked_20 (fun x1 x2 x3 x4 v => f_X12_ranked_8 f x1 x2 x3 x4 v) 5000 x (nI n) (1 : Int32) (nI k) (0 : Int32) (0 : Int32) u = if nI (cnt (ahP w) k n) = x then (w (8 + 8 * k), u) else f_X12_ranked_8 f x (nI n) (1 : Int32) (nI (k + 1)) u := b2
    rw [p_X12_ranked_8, f_X12_ranked_8, if_neg hle, b2', ff_s]
    refine ⟨⟨fun h => absurd h hle, fun _ => b1'⟩, ?_⟩
    by_cases hc : nI (cnt (ahP w) k n) = x
    · have hr : rnk (ahP w) n x k = true := decide_eq_true hc
      rw [if_pos hc, if_pos hr]
      rfl
    · have hr : ¬ rnk (ahP w) n x k = true := by
        unfold rnk
        rw [decide_eq_true_iff]
        exact hc
      rw [if_neg hc, if_neg hr]
      exact i2
theorem R_policyByLoad (x : Int32) {B : Nat} : Rd (fun v => (f_X11_policyByLoad x v, v)) (p_X11_policyByLoad x) (f_X12_policyByLoad x) (p_X12_policyByLoad x) eN oy1 (any Int32) B := by
  intro v np nc nt no h
  have hw := h.1
  have n5 : np ≤ 8 := hw.2.2.2.2.1
  have s1 : v.1 2 1 = nI np := h.2.2.2.2.2.2.2.1.1
  obtain ⟨a1, a2⟩ := L_rankP s1 n5 h.2.2.1 h.2.2.2.2.2.2.2.2.1 x np 0 5000 (by omega) (by omega)
  have a1' : p_X6_idAtRank_P 1 x v := a1
  have a2' : f_X6_idAtRank_P 1 x v = (ff (rnk (ahP (v.1 560)) np x) np 0).elim (Sum.inr "java/util/NoSuchElementException") fun k => Sum.inl (v.1 560 (8 + 8 * k)) := a2
  have hp : p_X11_policyByLoad x v := And.intro a1' fun _ _ => trivial
  have hm : ∀ u : gV, u.1 560 = v.1 560 → p_X12_policyByLoad x u ∧ f_X12_policyByLoad x u = (ff (rnk (ahP (v.1 560)) np x) np 0).elim (nI 0, thr u (nI 1)) fun k => (v.1 560 (8 + 8 * k), thr u (nI 0)) := fun u hu => by
    obtain ⟨b1, b2⟩ := L_rkP (u := thr u (nI 0)) (w := v.1 560) (n := np) (by rw [thr_560]; exact hu) n5 x np 0 5000 (by omega) (by omega)
    have u0 : u.1 560 (0 : Int32).toNatClampNeg = nI np := by rw [hu]; exact hw.1
    have c1 : p_X12_ranked x (nI np) (1 : Int32) u := b1
    have c2 : f_X12_ranked x (nI np) (1 : Int32) u = (ff (rnk (ahP (v.1 560)) np x) np 0).elim (nI 0, thr (thr u (nI 0)) (nI 1)) fun k => (v.1 560 (8 + 8 * k), thr u (nI 0)) := b2
    rw [thr_thr] at c2
    constructor
    · show p_X12_ranked x (u.1 560 (0 : Int32).toNatClampNeg) (1 : Int32) u ∧ True
      rw [u0]
      exact ⟨c1, trivial⟩
    · show f_X12_ranked x (u.1 560 (0 : Int32).toNatClampNeg) (1 : Int32) u = _
      rw [u0]
      exact c2
  cases e : ff (rnk (ahP (v.1 560)) np x) np 0 with
  | none =>
    rw [e] at a2' hm
    have hf : f_X11_policyByLoad x v = Sum.inr "java/util/NoSuchElementException" := by
      show Sum.elim (fun sr2 => Sum.inl sr2) (fun e => Sum.inr e) (f_X6_idAtRank_P 1 x v) = _
      rw [a2']
      rfl
    refine ⟨hp, Sc.refl v, nI 1, fun _ => ⟨rfl, hf, fun u hu => ?_⟩, fun h => absurd h n10⟩
    rw [(hm u hu).2]
    exact ⟨(hm u hu).1, thr_Th u _⟩
  | some k =>
    rw [e] at a2' hm
    have hf : f_X11_policyByLoad x v = Sum.inl (v.1 560 (8 + 8 * k)) := by
      show Sum.elim (fun sr2 => Sum.inl sr2) (fun e => Sum.inr e) (f_X6_idAtRank_P 1 x v) = _
      rw [a2']
      rfl
    refine ⟨hp, Sc.refl v, nI 0, fun h => absurd rfl h, fun _ => ⟨_, trivial, hf, fun u hu => ?_⟩⟩
    rw [(hm u hu).2]
    exact ⟨(hm u hu).1, rfl, thr_Th u _⟩
theorem L_cntC {v : gV} {w : Nat → Int32} {np n nt : Nat} (s : v.1 11 1 = nI n) (hn : n ≤ 12) (wc : WFc w np n nt) (bc : BRc v 1 w n) {k : Nat} (hk : k < n) : ∀ (m i fuel a : Nat), i + m = n → m < fuel → p_X6_countAhead_C_4 1 fuel (nI k) (nI a) (nI i) v ∧ f_X6_countAhead_C_4 1 fuel (nI k) (nI a) (nI i) v = nI (lp (cntS (ahC w) k) m i a) := by
  intro m
  induction m with
  | zero =>
    intro i fuel a hi hf
    obtain ⟨f, rfl⟩ := fuel_s hf
    have hle : nI n ≤ nI i := nI_le (by omega) (by omega)
    have s' : v.1 (1 + 10) 1 = nI n := s
    rw [p_X6_countAhead_C_4, f_X6_countAhead_C_4, s', if_pos hle]
    exact ⟨⟨fun _ => trivial, fun h => absurd hle h⟩, rfl⟩
  | succ m ih =>
    intro i fuel a hi hf
    obtain ⟨f, rfl⟩ := fuel_s hf
    have hle : ¬ nI n ≤ nI i := nI_ge (by omega) (by omega)
    have s' : v.1 (1 + 10) 1 = nI n := s
    obtain ⟨a1, a2⟩ := K_ahC hn wc bc (i := i) (k := k) (by omega) hk
    have hih := ih (i + 1) f (cntS (ahC w) k i a) (by omega) (by omega)
    rw [p_X6_countAhead_C_4, f_X6_countAhead_C_4, s', if_neg hle, a2, lp_s]
    simp only [f_X6_countAhead_C_24, p_X6_countAhead_C_24, nI_1]
    unfold cntS at hih ⊢
    cases hah : ahC w i k with
    | false =>
      rw [hah, if_neg Bool.false_ne_true] at hih
      rw [if_pos (show b01 false = 0 from rfl), if_neg Bool.false_ne_true]
      exact ⟨⟨fun h => absurd h hle, fun _ => ⟨a1, fun _ => hih.1, fun h => absurd rfl h⟩⟩, hih.2⟩
    | true =>
      rw [hah, if_pos rfl] at hih
      have hb : ¬ b01 true = 0 := n10
      rw [if_neg hb, if_pos rfl]
      exact ⟨⟨fun h => absurd h hle, fun _ => ⟨a1, fun h => absurd h hb, fun _ => hih.1⟩⟩, hih.2⟩
theorem L_rankC {v : gV} {w : Nat → Int32} {np n nt : Nat} (s : v.1 11 1 = nI n) (hn : n ≤ 12) (wc : WFc w np n nt) (bc : BRc v 1 w n) (x : Int32) : ∀ (m k fuel : Nat), k + m = n → m < fuel → p_X6_idAtRank_C_2 1 fuel x (nI k) v ∧ f_X6_idAtRank_C_2 1 fuel x (nI k) v = (ff (rnk (ahC w) n x) m k).elim (Sum.inr "java/util/NoSuchElementException") fun k => Sum.inl (w (72 + 12 * k)) := by
  intro m
  induction m with
  | zero =>
    intro k fuel hk hf
    obtain ⟨f, rfl⟩ := fuel_s hf
    have hle : nI n ≤ nI k := nI_le (by omega) (by omega)
    have s' : v.1 (1 + 10) 1 = nI n := s
    rw [p_X6_idAtRank_C_2, f_X6_idAtRank_C_2, s', if_pos hle]
    exact ⟨⟨fun _ => trivial, fun h => absurd hle h⟩, rfl⟩
  | succ m ih =>
    intro k fuel hk hf
    obtain ⟨f, rfl⟩ := fuel_s hf
    have hle : ¬ nI n ≤ nI k := nI_ge (by omega) (by omega)
    have s' : v.1 (1 + 10) 1 = nI n := s
    obtain ⟨c1, c2⟩ := L_cntC s hn wc bc (k := k) (by omega) n 0 5000 0 (by omega) (by omega)
    have c1' : p_X6_countAhead_C 1 (nI k) v := c1
    have c2' : f_X6_countAhead_C 1 (nI k) v = nI (cnt (ahC w) k n) := c2
    have hv : vp_in (nI k) 12 := vi_n (by omega) (by omega)
    have hid : v.1 (1 + 11) (nI k).toNatClampNeg = w (72 + 12 * k) := by
      rw [cl_n (by omega)]
      exact (bc k (by omega)).1
    obtain ⟨i1, i2⟩ := ih (k + 1) f (by omega) (by omega)
    rw [p_X6_idAtRank_C_2, f_X6_idAtRank_C_2, s', if_neg hle, c2', ff_s, hid, nI_1]
    by_cases hc : nI (cnt (ahC w) k n) = x
    · have hr : rnk (ahC w) n x k = true := decide_eq_true hc
      rw [if_pos hc, if_pos hr]
      exact ⟨⟨fun h => absurd h hle, fun _ => ⟨c1', fun _ => ⟨hv, trivial⟩, fun h => absurd hc h⟩⟩, rfl⟩
    · have hr : ¬ rnk (ahC w) n x k = true := by
        unfold rnk
        rw [decide_eq_true_iff]
        exact hc
      rw [if_neg hc, if_neg hr]
      exact ⟨⟨fun h => absurd h hle, fun _ => ⟨c1', fun h => absurd h hc, fun _ => i1⟩⟩, i2⟩
theorem L_rkC2 {u : gV} {w : Nat → Int32} {n k : Nat} (hw : u.1 560 = w) (hn : n ≤ 12) (hk : k < n) (x : Int32) (K8 : Int32 → Int32 → Int32 → Int32 → gV → Int32 × gV) (PK8 : Int32 → Int32 → Int32 → Int32 → gV → Prop) (hPK : ¬ nI (cnt (ahC w) k n) = x → PK8 x (nI n) (0 : Int32) (nI (k + 1)) u) : ∀ (m i fuel a : Nat), i + m = n → m < fuel → lp (cntS (ahC w) k) m i a = cnt (ahC w) k n → p_X12_ranked_20 K8 PK8 fuel x (nI n) (0 : Int32) (nI k) (nI a) (nI i) u ∧ f_X12_ranked_20 K8 fuel x (nI n) (0 : Int32) (nI k) (nI a) (nI i) u = if nI (cnt (ahC w) k n) = x then (w (72 + 12 * k), u) else K8 x (nI n) (0 : Int32) (nI (k + 1)) u := by
  have x30 : (0 : Int32) = 0 := rfl
  have p0 : p_X12_c (nI k) (0 : Int32) u := P_X12_c u (k := k) (o := 0) (by omega)
  have f0 : f_X12_c (nI k) (0 : Int32) u = w (72 + 12 * k) := by
    rw [← hw]
    exact F_X12_c u (k := k) (o := 0) (by omega)
  intro m
  induction m with
  | zero =>
    intro i fuel a hi hf ha
    obtain ⟨f, rfl⟩ := fuel_s hf
    have hle : nI n ≤ nI i := nI_le (by omega) (by omega)
    have ha : a = cnt (ahC w) k n := ha
    rw [p_X12_ranked_20, f_X12_ranked_20, if_pos hle, ha, nI_1]
    simp only [f_X12_ranked_105, p_X12_ranked_105, f0]
    by_cases hc : nI (cnt (ahC w) k n) = x
    · rw [if_pos hc, if_pos hc, if_pos trivial]
      exact ⟨⟨fun _ => ⟨fun _ => ⟨fun _ => ⟨p0, trivial⟩, fun h => absurd trivial h⟩, fun h => absurd hc h⟩, fun h => absurd hle h⟩, rfl⟩
    · rw [if_neg hc, if_neg hc]
      exact ⟨⟨fun _ => ⟨fun h => absurd h hc, fun _ => hPK hc⟩, fun h => absurd hle h⟩, rfl⟩
  | succ m ih =>
    intro i fuel a hi hf ha
    obtain ⟨f, rfl⟩ := fuel_s hf
    have hle : ¬ nI n ≤ nI i := nI_ge (by omega) (by omega)
    obtain ⟨a1, a2⟩ := K_ahC12 (u := u) (i := i) (k := k) hw (by omega) (by omega)
    rw [lp_s] at ha
    obtain ⟨i1, i2⟩ := ih (i + 1) f (cntS (ahC w) k i a) (by omega) (by omega) ha
    have e0 : nI a + (0 : Int32) = nI a := Int32.add_zero _
    have e1 : nI a + (1 : Int32) = nI (a + 1) := nI_1 a
    rw [p_X12_ranked_20, f_X12_ranked_20, if_neg hle]
    simp only [f_X12_ranked_68, p_X12_ranked_68, f_X12_ranked_64, p_X12_ranked_64, f_X12_ranked_69, p_X12_ranked_69, nI_1, e0, e1]
    by_cases hik : nI i = nI k
    · have : i = k := (eq_n (by omega) (by omega)).mp hik
      subst this
      have hs : cntS (ahC w) i i a = a := if_neg (by rw [ahC_self]; exact Bool.false_ne_true)
      rw [hs] at i1 i2
      rw [if_pos rfl]
      exact ⟨⟨fun h => absurd h hle, fun _ => ⟨fun _ => i1, fun h => absurd rfl h⟩⟩, i2⟩
    · rw [if_neg hik, if_pos trivial, a2]
      unfold cntS at i1 i2
      cases hah : ahC w i k with
      | false =>
        rw [hah, if_neg Bool.false_ne_true] at i1 i2
        rw [if_pos (show b01 false = 0 from rfl)]
        exact ⟨⟨fun h => absurd h hle, fun _ => ⟨fun h => absurd h hik, fun _ => ⟨fun _ => ⟨a1, fun _ => i1, fun h => absurd rfl h⟩, fun h => absurd trivial h⟩⟩⟩, i2⟩
      | true =>
        rw [hah, if_pos rfl] at i1 i2
        have hb : ¬ b01 true = 0 := n10
        rw [if_neg hb]
        exact ⟨⟨fun h => absurd h hle, fun _ => ⟨fun h => absurd h hik, fun _ => ⟨fun _ => ⟨a1, fun h => absurd h hb, fun _ => i1⟩, fun h => absurd trivial h⟩⟩⟩, i2⟩
theorem L_rkC {u : gV} {w : Nat → Int32} {n : Nat} (hw : u.1 560 = w) (hn : n ≤ 12) (x : Int32) : ∀ (m k fuel : Nat), k + m = n → m < fuel → p_X12_ranked_8 fuel x (nI n) (0 : Int32) (nI k) u ∧ f_X12_ranked_8 fuel x (nI n) (0 : Int32) (nI k) u = (ff (rnk (ahC w) n x) m k).elim (nI 0, thr u (nI 1)) fun k => (w (72 + 12 * k), u) := by
  intro m
  induction m with
  | zero =>
    intro k fuel hk hf
    obtain ⟨f, rfl⟩ := fuel_s hf
    have hle : nI n ≤ nI k := nI_le (by omega) (by omega)
    rw [p_X12_ranked_8, f_X12_ranked_8, if_pos hle]
    exact ⟨⟨fun _ => ⟨P_X12_fail _ _, trivial⟩, fun h => absurd hle h⟩, rfl⟩
  | succ m ih =>
    intro k fuel hk hf
    obtain ⟨f, rfl⟩ := fuel_s hf
    have hle : ¬ nI n ≤ nI k := nI_ge (by omega) (by omega)
    obtain ⟨i1, i2⟩ := ih (k + 1) f (by omega) (by omega)
    obtain ⟨b1, b2⟩ := L_rkC2 (u := u) (n := n) (k := k) hw hn (by omega) x (fun x1 x2 x3 x4 v => f_X12_ranked_8 f x1 x2 x3 x4 v) (fun x1 x2 x3 x4 v => p_X12_ranked_8 f x1 x2 x3 x4 v) (fun _ => i1) n 0 5000 0 (by omega) (by omega) rfl
    have b1' : p_X12_ranked_20 (fun x1 x2 x3 x4 v => f_X12_ranked_8 f x1 x2 x3 x4 v) (fun x1 x2 x3 x4 v => p_X12_ranked_8 f x1 x2 x3 x4 v) 5000 x (nI n) (0 : Int32) (nI k) (0 : Int32) (0 : Int32) u := b1
    have b2' : f_X12_ranked_20 (fun x1 x2 x3 x4 v => f_X12_ranked_8 f x1 x2 x3 x4 v) 5000 x (nI n) (0 : Int32) (nI k) (0 : Int32) (0 : Int32) u = if nI (cnt (ahC w) k n) = x then (w (72 + 12 * k), u) else f_X12_ranked_8 f x (nI n) (0 : Int32) (nI (k + 1)) u := b2
    rw [p_X12_ranked_8, f_X12_ranked_8, if_neg hle, b2', ff_s]
    refine ⟨⟨fun h => absurd h hle, fun _ => b1'⟩, ?_⟩
    by_cases hc : nI (cnt (ahC w) k n) = x
    · have hr : rnk (ahC w) n x k = true := decide_eq_true hc
      rw [if_pos hc, if_pos hr]
      rfl
    · have hr : ¬ rnk (ahC w) n x k = true := by
        unfold rnk
        rw [decide_eq_true_iff]
        exact hc
      rw [if_neg hc, if_neg hr]
      exact i2
theorem R_claimByUnpaid (x : Int32) {B : Nat} : Rd (fun v => (f_X11_claimByUnpaid x v, v)) (p_X11_claimByUnpaid x) (f_X12_claimByUnpaid x) (p_X12_claimByUnpaid x) eN oy1 (any Int32) B := by
  intro v np nc nt no h
  have hw := h.1
  have n5 : nc ≤ 12 := hw.2.2.2.2.2.1
  have s1 : v.1 11 1 = nI nc := h.2.2.2.2.2.2.2.1.2.2.1
  obtain ⟨a1, a2⟩ := L_rankC s1 n5 h.2.2.2.1 h.2.2.2.2.2.2.2.2.2.1 x nc 0 5000 (by omega) (by omega)
  have a1' : p_X6_idAtRank_C 1 x v := a1
  have a2' : f_X6_idAtRank_C 1 x v = (ff (rnk (ahC (v.1 560)) nc x) nc 0).elim (Sum.inr "java/util/NoSuchElementException") fun k => Sum.inl (v.1 560 (72 + 12 * k)) := a2
  have hp : p_X11_claimByUnpaid x v := And.intro a1' fun _ _ => trivial
  have hm : ∀ u : gV, u.1 560 = v.1 560 → p_X12_claimByUnpaid x u ∧ f_X12_claimByUnpaid x u = (ff (rnk (ahC (v.1 560)) nc x) nc 0).elim (nI 0, thr u (nI 1)) fun k => (v.1 560 (72 + 12 * k), thr u (nI 0)) := fun u hu => by
    obtain ⟨b1, b2⟩ := L_rkC (u := thr u (nI 0)) (w := v.1 560) (n := nc) (by rw [thr_560]; exact hu) n5 x nc 0 5000 (by omega) (by omega)
    have u0 : u.1 560 (1 : Int32).toNatClampNeg = nI nc := by rw [hu]; exact hw.2.1
    have c1 : p_X12_ranked x (nI nc) (0 : Int32) u := b1
    have c2 : f_X12_ranked x (nI nc) (0 : Int32) u = (ff (rnk (ahC (v.1 560)) nc x) nc 0).elim (nI 0, thr (thr u (nI 0)) (nI 1)) fun k => (v.1 560 (72 + 12 * k), thr u (nI 0)) := b2
    rw [thr_thr] at c2
    constructor
    · show p_X12_ranked x (u.1 560 (1 : Int32).toNatClampNeg) (0 : Int32) u ∧ True
      rw [u0]
      exact ⟨c1, trivial⟩
    · show f_X12_ranked x (u.1 560 (1 : Int32).toNatClampNeg) (0 : Int32) u = _
      rw [u0]
      exact c2
  cases e : ff (rnk (ahC (v.1 560)) nc x) nc 0 with
  | none =>
    rw [e] at a2' hm
    have hf : f_X11_claimByUnpaid x v = Sum.inr "java/util/NoSuchElementException" := by
      show Sum.elim (fun sr2 => Sum.inl sr2) (fun e => Sum.inr e) (f_X6_idAtRank_C 1 x v) = _
      rw [a2']
      rfl
    refine ⟨hp, Sc.refl v, nI 1, fun _ => ⟨rfl, hf, fun u hu => ?_⟩, fun h => absurd h n10⟩
    rw [(hm u hu).2]
    exact ⟨(hm u hu).1, thr_Th u _⟩
  | some k =>
    rw [e] at a2' hm
    have hf : f_X11_claimByUnpaid x v = Sum.inl (v.1 560 (72 + 12 * k)) := by
      show Sum.elim (fun sr2 => Sum.inl sr2) (fun e => Sum.inr e) (f_X6_idAtRank_C 1 x v) = _
      rw [a2']
      rfl
    refine ⟨hp, Sc.refl v, nI 0, fun h => absurd rfl h, fun _ => ⟨_, trivial, hf, fun u hu => ?_⟩⟩
    rw [(hm u hu).2]
    exact ⟨(hm u hu).1, rfl, thr_Th u _⟩
