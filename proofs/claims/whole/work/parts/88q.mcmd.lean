/-! one command of the script, on the reference's side -/
def mi (d K r : Nat) (w : gV) : gV := if d = 0 then (if K = 67 then f_X12_put (nI r) (f_X12_cause w).1 (f_X12_cause w).2 else f_X12_put (nI r) (f_X12_number (nI 2) w).1 (f_X12_number (nI 2) w).2) else f_X12_putBehind (nI d) (nI r) (nI (if K = 68 then 1 else 2)) w
def miP (d K r : Nat) (w : gV) : Prop := if d = 0 then (if K = 67 then p_X12_cause w ∧ p_X12_put (nI r) (f_X12_cause w).1 (f_X12_cause w).2 else p_X12_number (nI 2) w ∧ p_X12_put (nI r) (f_X12_number (nI 2) w).1 (f_X12_number (nI 2) w).2) else p_X12_putBehind (nI d) (nI r) (nI (if K = 68 then 1 else 2)) w
def mrs : List (Nat × Nat) → Nat → gV → gV
  | [], _, w => w
  | x :: L, r, w => mrs L (r + 1) (mi x.1 x.2 r w)
def mrsP : List (Nat × Nat) → Nat → gV → Prop
  | [], _, _ => True
  | x :: L, r, w => miP x.1 x.2 r w ∧ mrsP L (r + 1) (mi x.1 x.2 r w)
theorem its_at : its 0 = [(32, 78), (32, 68), (32, 78)] ∧ its 1 = [(32, 78)] ∧ its 2 = [(32, 78), (43, 78), (42, 78), (32, 78)] ∧ its 3 = [(32, 68)] ∧ its 4 = [(32, 78), (0, 67), (0, 78)] ∧ its 5 = [(32, 78), (32, 78)] ∧ its 6 = [(32, 78)] ∧ its 7 = [(32, 78)] ∧ its 8 = [(32, 78), (45, 78), (32, 78)] ∧ its 9 = [(32, 78)] := ⟨rfl, rfl, rfl, rfl, rfl, rfl, rfl, rfl, rfl, rfl⟩
theorem M_cmd4 (w : gV) : ∀ i, i < 10 → f_X12_command_4 (nI i) w = f_X12_command_27 (nI i) (mrs (its i) 0 w) ∧ (p_X12_command_4 (nI i) w ↔ (mrsP (its i) 0 w ∧ p_X12_command_27 (nI i) (mrs (its i) 0 w))) := by
  obtain ⟨i0, i1, i2, i3, i4, i5, i6, i7, i8, i9⟩ := its_at
  intro i hi
  have hc : i = 0 ∨ i = 1 ∨ i = 2 ∨ i = 3 ∨ i = 4 ∨ i = 5 ∨ i = 6 ∨ i = 7 ∨ i = 8 ∨ i = 9 := by omega
  rcases hc with rfl | rfl | rfl | rfl | rfl | rfl | rfl | rfl | rfl | rfl <;> constructor <;>
    simp (disch := omega) only [i0, i1, i2, i3, i4, i5, i6, i7, i8, i9, f_X12_command_4, p_X12_command_4, f_X12_command_19, p_X12_command_19, f_X12_command_22, p_X12_command_22, f_X12_readsRest_150, p_X12_readsRest_150, f_X12_readsRest_68, p_X12_readsRest_68, f_X12_readsRest_60, p_X12_readsRest_60, f_X12_readsRest_95, p_X12_readsRest_95, f_X12_readsRest_87, p_X12_readsRest_87, f_X12_readsRest_79, p_X12_readsRest_79, f_X12_readsRest_117, p_X12_readsRest_117, f_X12_readsRest_114, p_X12_readsRest_114, f_X12_readsRest_107, p_X12_readsRest_107, f_X12_readsRest_104, p_X12_readsRest_104, f_X12_readsRest_128, p_X12_readsRest_128, f_X12_readsRest_147, p_X12_readsRest_147, f_X12_readsRest_139, p_X12_readsRest_139, f_X12_readsRest_0, p_X12_readsRest_0, f_X12_readsRest, p_X12_readsRest, mrs, mrsP, mi, miP, li_0, li_1, li_2, li_3, li_4, li_5, li_6, li_7, li_8, li_9, li_10, li_11, li_12, li_29, li_30, li_32, li_33, li_35, li_42, li_43, li_45, li_47, li_48, li_50, li_57, li_58, li_59, li_60, li_61, li_63, li_64, li_67, li_68, li_72, li_78, li_79, li_80, li_97, li_99, li_100, li_101, li_102, li_103, li_105, li_108, li_109, li_110, li_111, li_112, li_114, li_115, li_116, li_117, li_118, li_119, li_120, li_121, li_126, li_216, li_232, li_240, li_264, li_300, li_1000, li_1000000, li_2147483647, eq_n, Nat.reduceEqDiff, Nat.reduceAdd, reduceIte, if_true, if_false, true_and, and_true, false_implies, true_implies, not_true_eq_false, not_false_eq_true, implies_true, and_self, and_assoc]
theorem F_putBehind (x1 x2 x3 : Int32) (v : gV) : f_X12_putBehind x1 x2 x3 v = f_X12_put x2 (f_X12_number x3 (f_X12_expect x1 v)).1 (f_X12_number x3 (f_X12_expect x1 v)).2 := by
  rw [f_X12_putBehind, f_X12_putBehind_0, f_X12_putBehind_5, f_X12_putBehind_12, f_X12_putBehind_15]
theorem P_putBehind (x1 x2 x3 : Int32) (v : gV) (h1 : p_X12_expect x1 v) (h2 : p_X12_number x3 (f_X12_expect x1 v)) (h3 : p_X12_put x2 (f_X12_number x3 (f_X12_expect x1 v)).1 (f_X12_number x3 (f_X12_expect x1 v)).2) : p_X12_putBehind x1 x2 x3 v := by
  rw [p_X12_putBehind, p_X12_putBehind_0, p_X12_putBehind_5, p_X12_putBehind_12, p_X12_putBehind_15]
  exact ⟨h1, h2, h3, trivial⟩
theorem rdK_rs (T : Nat → Int32) (n p : Nat) {K : Nat} (h : K = 78 ∨ K = 68) : rdK T n p (if K = 68 then 1 else 2) = rs T n p K := by
  rcases h with rfl | rfl <;> rfl
theorem rdL_n {T : Nat → Int32} {n p d : Nat} {y : Int32} {q : Nat} (h : rdL T n p d = some (y, q)) : q = p + 1 ∧ p < n := by
  unfold rdL at h
  by_cases h1 : p < n ∧ T p = nI d
  · rw [if_pos h1] at h
    cases h
    exact ⟨rfl, h1.1⟩
  · rw [if_neg h1] at h
    cases h
theorem K_put2 {T : Nat → Int32} {n c : Nat} {u : gV} (h : TM T n c u) {r : Nat} (hr : r < 4) {z : Int32 × gV} {y : Int32} {q e : Nat} {A : Nat → Int32} (hz : z = (y, mS u q e A)) : p_X12_put (nI r) z.1 z.2 ∧ f_X12_put (nI r) z.1 z.2 = mS u q e (upd A (4 * c + r) y) := by
  subst hz
  exact K_put h q e A r hr y
theorem K_item {T : Nat → Int32} {n c : Nat} {u : gV} (h : TM T n c u) (d K : Nat) (hx : itk (d, K)) (r : Nat) (hr : r < 4) (p : Nat) (hp : p ≤ n) (A : Nat → Int32) : (miP d K r (mS u p 1 A) ∧ ∃ y, mi d K r (mS u p 1 A) = mS u p 1 (upd A (4 * c + r) y)) ∧ (miP d K r (mS u p 0 A) ∧ (∀ q, it T n p d K = Sum.inl q → ∃ y, mi d K r (mS u p 0 A) = mS u q 1 (upd A (4 * c + r) y)) ∧ ∀ y q, it T n p d K = Sum.inr (y, q) → mi d K r (mS u p 0 A) = mS u q 0 (upd A (4 * c + r) y)) := by
  have hd1 : d = 0 ∨ d = 32 ∨ d = 43 ∨ d = 42 ∨ d = 45 := hx.1
  have hK1 : K = 78 ∨ K = 68 ∨ K = 67 := hx.2.1
  have hx3 : d = 0 ∨ ¬ K = 67 := hx.2.2.1
  have hx4 : ¬ d = 0 ∨ ¬ K = 68 := hx.2.2.2
  have n1 : ¬ (1 : Nat) = 0 := by omega
  by_cases h0 : d = 0
  · subst h0
    by_cases h67 : K = 67
    · subst h67
      obtain ⟨a1, y1, a2⟩ := K_cause h p 1 hp (by omega) A
      obtain ⟨b1, y0, b2⟩ := K_cause h p 0 hp (by omega) A
      rw [if_neg n1] at a2
      rw [if_pos rfl] at b2
      obtain ⟨c1, c2⟩ := K_put2 h hr a2
      refine ⟨⟨⟨a1, c1⟩, y1, c2⟩, ?_⟩
      have eit : it T n p 0 67 = (rdC T n p).elim (Sum.inl p) Sum.inr := rfl
      rw [eit]
      cases hc : rdC T n p with
      | none =>
        rw [hc] at b2
        obtain ⟨c1, c2⟩ := K_put2 h hr b2
        refine ⟨⟨b1, c1⟩, fun q hq => ?_, fun y q hq => by cases hq⟩
        cases hq
        exact ⟨y0, c2⟩
      | some z =>
        obtain ⟨z, q1⟩ := z
        rw [hc] at b2
        obtain ⟨c1, c2⟩ := K_put2 h hr b2
        refine ⟨⟨b1, c1⟩, fun q hq => (by cases hq), fun y q hq => ?_⟩
        cases hq
        exact c2
    · have h78 : K = 78 := by omega
      subst h78
      obtain ⟨a1, a2⟩ := K_number h p 1 hp (by omega) A 2 (Or.inr rfl)
      obtain ⟨b1, b2⟩ := K_number h p 0 hp (by omega) A 2 (Or.inr rfl)
      rw [if_neg n1] at a2
      rw [if_pos rfl] at b2
      obtain ⟨c1, c2⟩ := K_put2 h hr a2
      refine ⟨⟨⟨a1, c1⟩, nI 0, c2⟩, ?_⟩
      have eit : it T n p 0 78 = (rdK T n p 2).elim (Sum.inl p) Sum.inr := rfl
      rw [eit]
      cases hc : rdK T n p 2 with
      | none =>
        rw [hc] at b2
        obtain ⟨c1, c2⟩ := K_put2 h hr b2
        refine ⟨⟨b1, c1⟩, fun q hq => ?_, fun y q hq => by cases hq⟩
        cases hq
        exact ⟨nI 0, c2⟩
      | some z =>
        obtain ⟨z, q1⟩ := z
        rw [hc] at b2
        obtain ⟨c1, c2⟩ := K_put2 h hr b2
        refine ⟨⟨b1, c1⟩, fun q hq => (by cases hq), fun y q hq => ?_⟩
        cases hq
        exact c2
  · have h67 : K = 78 ∨ K = 68 := by omega
    have em : ∀ w, mi d K r w = f_X12_put (nI r) (f_X12_number (nI (if K = 68 then 1 else 2)) (f_X12_expect (nI d) w)).1 (f_X12_number (nI (if K = 68 then 1 else 2)) (f_X12_expect (nI d) w)).2 := fun w => by
      unfold mi
      rw [if_neg h0, F_putBehind]
    have ep : ∀ w, p_X12_expect (nI d) w → p_X12_number (nI (if K = 68 then 1 else 2)) (f_X12_expect (nI d) w) → p_X12_put (nI r) (f_X12_number (nI (if K = 68 then 1 else 2)) (f_X12_expect (nI d) w)).1 (f_X12_number (nI (if K = 68 then 1 else 2)) (f_X12_expect (nI d) w)).2 → miP d K r w := fun w h1 h2 h3 => by
      unfold miP
      rw [if_neg h0]
      exact P_putBehind _ _ _ _ h1 h2 h3
    have hk : (if K = 68 then 1 else 2) = 1 ∨ (if K = 68 then 1 else 2) = 2 := by
      rcases h67 with rfl | rfl
      · exact Or.inr rfl
      · exact Or.inl rfl
    obtain ⟨a1, a2⟩ := K_expect h p 1 hp (by omega) A d (by omega)
    obtain ⟨b1, b2⟩ := K_expect h p 0 hp (by omega) A d (by omega)
    rw [if_neg n1] at a2
    rw [if_pos rfl] at b2
    have bad : p_X12_number (nI (if K = 68 then 1 else 2)) (mS u p 1 A) ∧ f_X12_number (nI (if K = 68 then 1 else 2)) (mS u p 1 A) = (nI 0, mS u p 1 A) := by
      obtain ⟨c1, c2⟩ := K_number h p 1 hp (by omega) A _ hk
      rw [if_neg n1] at c2
      exact ⟨c1, c2⟩
    obtain ⟨d1, d2⟩ := bad
    constructor
    · rw [em]
      have e1 := ep (mS u p 1 A) a1
      rw [a2] at e1 ⊢
      obtain ⟨c1, c2⟩ := K_put2 h hr d2
      exact ⟨e1 d1 c1, nI 0, c2⟩
    · rw [em]
      have e1 := ep (mS u p 0 A) b1
      have eit : it T n p d K = (rdL T n p d).elim (Sum.inl p) fun y => (rs T n y.2 K).elim (Sum.inl y.2) Sum.inr := if_neg h0
      rw [eit]
      cases hl : rdL T n p d with
      | none =>
        rw [hl] at b2
        have b2 : f_X12_expect (nI d) (mS u p 0 A) = mS u p 1 A := b2
        rw [b2] at e1 ⊢
        obtain ⟨c1, c2⟩ := K_put2 h hr d2
        refine ⟨e1 d1 c1, fun q hq => ?_, fun y q hq => by cases hq⟩
        cases hq
        exact ⟨nI 0, c2⟩
      | some y =>
        obtain ⟨y, p1⟩ := y
        obtain ⟨rfl, hpn⟩ := rdL_n hl
        rw [hl] at b2
        have b2 : f_X12_expect (nI d) (mS u p 0 A) = mS u (p + 1) 0 A := b2
        rw [b2] at e1 ⊢
        obtain ⟨c1, c2⟩ := K_number h (p + 1) 0 (by omega) (by omega) A _ hk
        rw [if_pos rfl, rdK_rs T n (p + 1) h67] at c2
        show miP d K r (mS u p 0 A) ∧ (∀ q, (rs T n (p + 1) K).elim (Sum.inl (p + 1)) Sum.inr = Sum.inl q → _) ∧ ∀ y q, (rs T n (p + 1) K).elim (Sum.inl (p + 1)) Sum.inr = Sum.inr (y, q) → _
        cases hr2 : rs T n (p + 1) K with
        | none =>
          rw [hr2] at c2
          obtain ⟨d1, d2⟩ := K_put2 h hr c2
          refine ⟨e1 c1 d1, fun q hq => ?_, fun y q hq => by cases hq⟩
          cases hq
          exact ⟨nI 0, d2⟩
        | some z =>
          obtain ⟨z, q1⟩ := z
          rw [hr2] at c2
          obtain ⟨d1, d2⟩ := K_put2 h hr c2
          refine ⟨e1 c1 d1, fun q hq => (by cases hq), fun y q hq => ?_⟩
          cases hq
          exact d2
theorem K_mrs {T : Nat → Int32} {n c : Nat} {u : gV} (h : TM T n c u) : ∀ (L : List (Nat × Nat)) (r : Nat), r + L.length ≤ 4 → (∀ x, x ∈ L → itk x) → (∀ (p : Nat) (A : Nat → Int32), p ≤ n → mrsP L r (mS u p 1 A) ∧ ∃ A', mrs L r (mS u p 1 A) = mS u p 1 A') ∧ ∀ (p : Nat) (A : Nat → Int32), p ≤ n → mrsP L r (mS u p 0 A) ∧ (∀ q, rst T n L p = Sum.inl q → ∃ A', mrs L r (mS u p 0 A) = mS u q 1 A') ∧ ∀ q xs, rst T n L p = Sum.inr (q, xs) → ∃ A', mrs L r (mS u p 0 A) = mS u q 0 A' ∧ (∀ j, j < L.length → A' (4 * c + r + j) = xs.getD j 0) ∧ ∀ j, j < 4 * c + r → A' j = A j := by
  intro L
  induction L with
  | nil =>
    intro r _ _
    refine ⟨fun p A _ => ⟨trivial, A, rfl⟩, fun p A _ => ⟨trivial, fun q hq => (by cases hq), fun q xs hq => ?_⟩⟩
    cases hq
    exact ⟨A, rfl, fun j hj => absurd hj (Nat.not_lt_zero _), fun _ _ => rfl⟩
  | cons x L ih =>
    intro r hr hL
    obtain ⟨d, K⟩ := x
    have hr : r + (L.length + 1) ≤ 4 := hr
    have hx : itk (d, K) := hL _ List.mem_cons_self
    have hd1 : d = 0 ∨ d = 32 ∨ d = 43 ∨ d = 42 ∨ d = 45 := hx.1
    have hK1 : K = 78 ∨ K = 68 ∨ K = 67 := hx.2.1
    obtain ⟨h1, h0⟩ := ih (r + 1) (by omega) fun x hx => hL x (List.mem_cons_of_mem _ hx)
    refine ⟨fun p A hp => ?_, fun p A hp => ?_⟩
    · obtain ⟨⟨a1, y, a2⟩, -⟩ := K_item h d K hx r (by omega) p hp A
      obtain ⟨b1, A', b2⟩ := h1 p (upd A (4 * c + r) y) hp
      show (miP d K r (mS u p 1 A) ∧ mrsP L (r + 1) (mi d K r (mS u p 1 A))) ∧ ∃ A', mrs L (r + 1) (mi d K r (mS u p 1 A)) = mS u p 1 A'
      rw [a2]
      exact ⟨⟨a1, b1⟩, A', b2⟩
    · obtain ⟨-, a1, a2, a3⟩ := K_item h d K hx r (by omega) p hp A
      obtain ⟨t1, t2⟩ := it_n (T := T) (n := n) (c := d) (K := K) hp (by omega) (by omega)
      show (miP d K r (mS u p 0 A) ∧ mrsP L (r + 1) (mi d K r (mS u p 0 A))) ∧ (∀ q, Sum.elim Sum.inl (fun y => Sum.elim Sum.inl (fun z => Sum.inr (z.1, y.1 :: z.2)) (rst T n L y.2)) (it T n p d K) = Sum.inl q → ∃ A', mrs L (r + 1) (mi d K r (mS u p 0 A)) = mS u q 1 A') ∧ ∀ q xs, Sum.elim Sum.inl (fun y => Sum.elim Sum.inl (fun z => Sum.inr (z.1, y.1 :: z.2)) (rst T n L y.2)) (it T n p d K) = Sum.inr (q, xs) → ∃ A', mrs L (r + 1) (mi d K r (mS u p 0 A)) = mS u q 0 A' ∧ (∀ j, j < L.length + 1 → A' (4 * c + r + j) = xs.getD j 0) ∧ ∀ j, j < 4 * c + r → A' j = A j
      cases hi : it T n p d K with
      | inl q0 =>
        obtain ⟨y, a4⟩ := a2 _ hi
        have hq0 := t1 _ hi
        obtain ⟨b1, A', b2⟩ := h1 q0 (upd A (4 * c + r) y) (by omega)
        rw [a4]
        refine ⟨⟨a1, b1⟩, fun q hq => ?_, fun q xs hq => by cases hq⟩
        cases hq
        exact ⟨A', b2⟩
      | inr y =>
        obtain ⟨y, p1⟩ := y
        have a4 := a3 _ _ hi
        obtain ⟨_, hp1, _⟩ := t2 _ _ hi
        obtain ⟨b1, b2, b3⟩ := h0 p1 (upd A (4 * c + r) y) hp1
        rw [a4]
        refine ⟨⟨a1, b1⟩, ?_⟩
        show (∀ q, Sum.elim Sum.inl (fun z => Sum.inr (z.1, y :: z.2)) (rst T n L p1) = Sum.inl q → _) ∧ ∀ q xs, Sum.elim Sum.inl (fun z => Sum.inr (z.1, y :: z.2)) (rst T n L p1) = Sum.inr (q, xs) → _
        cases hr2 : rst T n L p1 with
        | inl q0 =>
          refine ⟨fun q hq => ?_, fun q xs hq => by cases hq⟩
          cases hq
          exact b2 _ hr2
        | inr z =>
          obtain ⟨z, zs⟩ := z
          refine ⟨fun q hq => (by cases hq), fun q xs hq => ?_⟩
          cases hq
          obtain ⟨A', c1, c2, c3⟩ := b3 _ _ hr2
          refine ⟨A', c1, fun j hj => ?_, fun j hj => ?_⟩
          · cases j with
            | zero =>
              show A' (4 * c + r) = y
              rw [c3 _ (by omega), upd_eq]
            | succ j =>
              have := c2 j (Nat.lt_of_succ_lt_succ hj)
              rw [show 4 * c + (r + 1) + j = 4 * c + r + (j + 1) by omega] at this
              exact this
          · rw [c3 j (by omega), upd_ne (by omega)]
theorem P_pick (x0 x1 x2 x3 x4 x5 x6 : Int32) (v : gV) : p_X12_pick x0 x1 x2 x3 x4 x5 x6 v := by
  rw [p_X12_pick, p_X12_pick_0]
  simp only [implies_true, and_self]
theorem P_spelled (x0 x1 : Int32) (v : gV) : p_X12_spelled x0 x1 v := by
  rw [p_X12_spelled, p_X12_spelled_0]
  simp only [P_pick, implies_true, and_self]
def v_0 : gV := (fun _ _ => 0, fun _ _ => 0, fun _ => 0)
theorem F_spelled_v (x0 x1 : Int32) (v : gV) : f_X12_spelled x0 x1 v = f_X12_spelled x0 x1 v_0 := by
  rw [f_X12_spelled, f_X12_spelled, f_X12_spelled_0, f_X12_spelled_0]
  simp only [f_X12_pick, f_X12_pick_0]
theorem F_spelled_0 : ∀ i, i < 10 → ∀ x, x < 7 → f_X12_spelled (nI i) (nI x) v_0 = nI ((wd i).getD x 0) := by decide +kernel
theorem F_spelled (v : gV) {i x : Nat} (hi : i < 10) (hx : x < 7) : f_X12_spelled (nI i) (nI x) v = nI ((wd i).getD x 0) := by rw [F_spelled_v, F_spelled_0 i hi x hx]
theorem drop_cons {L : List Nat} {x : Nat} (h : x < L.length) : L.drop x = L.getD x 0 :: L.drop (x + 1) := by
  rw [List.drop_eq_getElem_cons h, List.getD_eq_getElem?_getD, List.getElem?_eq_getElem h]
  rfl
theorem getD_end {L : List Nat} {x : Nat} (h : L.length ≤ x) : L.getD x 0 = 0 := by
  rw [List.getD_eq_getElem?_getD, List.getElem?_eq_none h]
  rfl
/-- one word: how far it goes -/
theorem K_word12 {T : Nat → Int32} {n c : Nat} {u : gV} (h : TM T n c u) (K : Int32 → Int32 → gV → Int32 × gV) (PK : Int32 → Int32 → gV → Prop) (p : Nat) (hp : p ≤ n) (A : Nat → Int32) (b : Int32) {i : Nat} (hi : i < 10) : ∀ (m x fuel : Nat), x + m = (wd i).length → m < fuel → p + x ≤ n → (p_X12_word_58 K PK b (nI i) (nI (x + ml T n ((wd i).drop x) (p + x))) (mS u p 0 A) → p_X12_word_12 K PK fuel b (nI i) (nI x) (mS u p 0 A)) ∧ f_X12_word_12 K fuel b (nI i) (nI x) (mS u p 0 A) = f_X12_word_58 K b (nI i) (nI (x + ml T n ((wd i).drop x) (p + x))) (mS u p 0 A) := by
  have hn := h.1
  have e17 : (mS u p 0 A).1 559 17 = nI n := by rw [mS_k _ _ _ _ (by omega) (by omega)]; exact h.2.2.1
  have hl := wd_len i hi
  intro m
  induction m with
  | zero =>
    intro x fuel hx hf hpx
    obtain ⟨fuel, rfl⟩ : ∃ m, fuel = m + 1 := ⟨fuel - 1, by omega⟩
    have e1 : f_X12_spelled (nI i) (nI x) (mS u p 0 A) = nI 0 := by rw [F_spelled _ hi (by omega), getD_end (by omega)]
    have l0 : nI 0 ≤ 0 := Int32.le_refl _
    have e2 : (wd i).drop x = [] := List.drop_eq_nil_of_le (by omega)
    rw [e2, show ml T n [] (p + x) = 0 from rfl, Nat.add_zero, p_X12_word_12, f_X12_word_12, e1, if_pos l0]
    exact ⟨fun g => ⟨P_spelled _ _ _, fun _ => g, fun g' => absurd l0 g'⟩, rfl⟩
  | succ m ih =>
    intro x fuel hx hf hpx
    obtain ⟨fuel, rfl⟩ : ∃ m, fuel = m + 1 := ⟨fuel - 1, by omega⟩
    have hxl : x < (wd i).length := by omega
    have hch := getD_ch hi hxl
    have e1 : f_X12_spelled (nI i) (nI x) (mS u p 0 A) = nI ((wd i).getD x 0) := F_spelled _ hi (by omega)
    have l0 : ¬ nI ((wd i).getD x 0) ≤ 0 := fun g => by
      have := (le_n (by omega) (by omega)).mp (show nI ((wd i).getD x 0) ≤ nI 0 from g)
      omega
    have e3 : nI x + 1 = nI (x + 1) := by rw [li_1, nI_add]
    rw [drop_cons hxl, p_X12_word_12, f_X12_word_12, e1, if_neg l0, mS_18, e17, nI_add]
    by_cases hpx2 : p + x < n
    · have c1 : ¬ nI n ≤ nI (p + x) := by rw [le_n (by omega) (by omega)]; omega
      have e567 : (mS u p 0 A).1 567 (nI (p + x)).toNatClampNeg = T (p + x) := by
        rw [cl_n (by omega), mS_o _ _ _ _ (by omega) (by omega)]
        exact h.2.2.2.2.1 _ hpx2
      rw [if_neg c1, e567, e3]
      by_cases hc : T (p + x) = nI ((wd i).getD x 0)
      · have em : ml T n ((wd i).getD x 0 :: (wd i).drop (x + 1)) (p + x) = ml T n ((wd i).drop (x + 1)) (p + x + 1) + 1 := if_pos ⟨hpx2, hc⟩
        obtain ⟨s1, s2⟩ := ih (x + 1) fuel (by omega) (by omega) (by omega)
        rw [em, if_pos hc, show x + (ml T n ((wd i).drop (x + 1)) (p + x + 1) + 1) = x + 1 + ml T n ((wd i).drop (x + 1)) (p + (x + 1)) by rw [show p + (x + 1) = p + x + 1 by omega]; omega]
        exact ⟨fun g => ⟨P_spelled _ _ _, fun g' => absurd g' l0, fun _ => ⟨fun g' => absurd g' c1, fun _ => ⟨vi_n (by omega) (by omega), P_spelled _ _ _, fun _ => s1 g, fun g' => absurd hc g'⟩⟩⟩, s2⟩
      · have em : ml T n ((wd i).getD x 0 :: (wd i).drop (x + 1)) (p + x) = 0 := if_neg fun g => hc g.2
        rw [em, if_neg hc, Nat.add_zero]
        exact ⟨fun g => ⟨P_spelled _ _ _, fun g' => absurd g' l0, fun _ => ⟨fun g' => absurd g' c1, fun _ => ⟨vi_n (by omega) (by omega), P_spelled _ _ _, fun g' => absurd g' hc, fun _ => g⟩⟩⟩, rfl⟩
    · have c1 : nI n ≤ nI (p + x) := by rw [le_n (by omega) (by omega)]; omega
      have em : ml T n ((wd i).getD x 0 :: (wd i).drop (x + 1)) (p + x) = 0 := if_neg fun g => hpx2 g.1
      rw [em, if_pos c1, Nat.add_zero]
      exact ⟨fun g => ⟨P_spelled _ _ _, fun g' => absurd g' l0, fun _ => ⟨fun _ => g, fun g' => absurd c1 g'⟩⟩, rfl⟩
theorem W_step {T : Nat → Int32} {n c : Nat} {u : gV} (h : TM T n c u) (p : Nat) (hp : p ≤ n) (A : Nat → Int32) (b : Nat) (hb : b ≤ n) {i : Nat} (hi : i < 10) (fuel : Nat) : (ml T n (wd i) p = (wd i).length → p_X12_word_4 (fuel + 1) (nI b) (nI i) (mS u p 0 A) ∧ f_X12_word_4 (fuel + 1) (nI b) (nI i) (mS u p 0 A) = (nI i, mS u (p + (wd i).length) 0 A)) ∧ (¬ ml T n (wd i) p = (wd i).length → (p_X12_word_4 fuel (nI (max b (ml T n (wd i) p))) (nI (i + 1)) (mS u p 0 A) → p_X12_word_4 (fuel + 1) (nI b) (nI i) (mS u p 0 A)) ∧ f_X12_word_4 (fuel + 1) (nI b) (nI i) (mS u p 0 A) = f_X12_word_4 fuel (nI (max b (ml T n (wd i) p))) (nI (i + 1)) (mS u p 0 A)) := by
  have hn := h.1
  have hl := wd_len i hi
  have c10 : ¬ (10 : Int32) ≤ nI i := by rw [li_10, le_n (by omega) (by omega)]; omega
  have hml := ml_le T n (wd i) p hp
  have ei : nI i + 1 = nI (i + 1) := by rw [li_1, nI_add]
  have hw := K_word12 h (fun x1 x2 v => f_X12_word_4 fuel x1 x2 v) (fun x1 x2 v => p_X12_word_4 fuel x1 x2 v) p hp A (nI b) hi (wd i).length 0 5000 (by omega) (by omega) (by omega)
  have e0 : (wd i).drop 0 = wd i := rfl
  rw [e0, Nat.add_zero, Nat.zero_add] at hw
  obtain ⟨w1, w2⟩ := hw
  rw [p_X12_word_4, f_X12_word_4, if_neg c10]
  constructor
  · intro hit
    rw [hit] at w1 w2
    have e1 : f_X12_spelled (nI i) (nI (wd i).length) (mS u p 0 A) = nI 0 := by rw [F_spelled _ hi (by omega), getD_end (Nat.le_refl _)]
    have l0 : nI 0 = 0 := rfl
    constructor
    · refine ⟨fun g => absurd g c10, fun _ => w1 ?_⟩
      rw [p_X12_word_58, e1]
      exact ⟨P_spelled _ _ _, fun _ => by rw [p_X12_word_76]; trivial, fun g => absurd l0 g⟩
    · refine w2.trans ?_
      rw [f_X12_word_58, e1, if_pos l0, f_X12_word_76, mS_18, nI_add, mS_p]
  · intro hno
    have hlt : ml T n (wd i) p < (wd i).length := by omega
    have hch := getD_ch hi hlt
    have e1 : f_X12_spelled (nI i) (nI (ml T n (wd i) p)) (mS u p 0 A) = nI ((wd i).getD (ml T n (wd i) p) 0) := F_spelled _ hi (by omega)
    have l0 : ¬ nI ((wd i).getD (ml T n (wd i) p) 0) = 0 := nI_ne (b := 0) (by omega) (by omega) (by omega)
    have hmx : (if nI (ml T n (wd i) p) ≤ nI b then nI b else nI (ml T n (wd i) p)) = nI (max b (ml T n (wd i) p)) := by
      by_cases h : ml T n (wd i) p ≤ b
      · rw [if_pos ((le_n (by omega) (by omega)).mpr h), Nat.max_eq_left h]
      · rw [if_neg (fun g => h ((le_n (by omega) (by omega)).mp g)), Nat.max_eq_right (by omega)]
    constructor
    · intro g
      refine ⟨fun g => absurd g c10, fun _ => w1 ?_⟩
      rw [p_X12_word_58, e1]
      refine ⟨P_spelled _ _ _, fun g => absurd g l0, fun _ => ⟨fun g1 => ?_, fun g1 => ?_⟩⟩
      · rw [if_pos g1] at hmx
        rw [p_X12_word_88, ei, hmx]
        exact g
      · rw [if_neg g1] at hmx
        rw [p_X12_word_88, ei, hmx]
        exact g
    · refine w2.trans ?_
      rw [f_X12_word_58, e1, if_neg l0, f_X12_word_88, f_X12_word_88, ei, ← hmx]
      by_cases g1 : nI (ml T n (wd i) p) ≤ nI b
      · rw [if_pos g1, if_pos g1]
      · rw [if_neg g1, if_neg g1]
theorem W_none {T : Nat → Int32} {n c : Nat} {u : gV} (h : TM T n c u) (p : Nat) (hp : p ≤ n) (A : Nat → Int32) : ∀ (m i b fuel : Nat), i + m = 10 → m < fuel → p + b ≤ n → (∀ j, i ≤ j → j < 10 → ¬ ml T n (wd j) p = (wd j).length) → p_X12_word_4 fuel (nI b) (nI i) (mS u p 0 A) ∧ f_X12_word_4 fuel (nI b) (nI i) (mS u p 0 A) = (nI 0, mS u (p + msx T n p m i b) 1 A) := by
  intro m
  induction m with
  | zero =>
    intro i b fuel hi hf hb _
    obtain ⟨fuel, rfl⟩ : ∃ m, fuel = m + 1 := ⟨fuel - 1, by omega⟩
    have : i = 10 := by omega
    subst this
    have c10 : (10 : Int32) ≤ nI 10 := Int32.le_refl _
    rw [p_X12_word_4, f_X12_word_4, if_pos c10, mS_18, nI_add, mS_p, f_X12_word_105, li_1, mS_e, f_X12_word_110]
    exact ⟨⟨fun _ => by rw [p_X12_word_105, p_X12_word_110]; trivial, fun g => absurd c10 g⟩, rfl⟩
  | succ m ih =>
    intro i b fuel hi hf hb hno
    obtain ⟨fuel, rfl⟩ : ∃ m, fuel = m + 1 := ⟨fuel - 1, by omega⟩
    have hml := (ml_le T n (wd i) p hp).2
    obtain ⟨s1, s2⟩ := (W_step h p hp A b (by omega) (by omega : i < 10) fuel).2 (hno i (Nat.le_refl _) (by omega))
    obtain ⟨t1, t2⟩ := ih (i + 1) (max b (ml T n (wd i) p)) fuel (by omega) (by omega) (by omega) fun j h1 h2 => hno j (by omega) h2
    exact ⟨s1 t1, s2.trans t2⟩
theorem W_some {T : Nat → Int32} {n c : Nat} {u : gV} (h : TM T n c u) (p : Nat) (hp : p ≤ n) (A : Nat → Int32) {k : Nat} (hk : k < 10) (hit : ml T n (wd k) p = (wd k).length) : ∀ (m i b fuel : Nat), i + m = k → m < fuel → p + b ≤ n → (∀ j, i ≤ j → j < k → ¬ ml T n (wd j) p = (wd j).length) → p_X12_word_4 fuel (nI b) (nI i) (mS u p 0 A) ∧ f_X12_word_4 fuel (nI b) (nI i) (mS u p 0 A) = (nI k, mS u (p + (wd k).length) 0 A) := by
  intro m
  induction m with
  | zero =>
    intro i b fuel hi hf hb _
    obtain ⟨fuel, rfl⟩ : ∃ m, fuel = m + 1 := ⟨fuel - 1, by omega⟩
    have : i = k := by omega
    subst this
    exact (W_step h p hp A b (by omega) hk fuel).1 hit
  | succ m ih =>
    intro i b fuel hi hf hb hno
    obtain ⟨fuel, rfl⟩ : ∃ m, fuel = m + 1 := ⟨fuel - 1, by omega⟩
    have hml := (ml_le T n (wd i) p hp).2
    obtain ⟨s1, s2⟩ := (W_step h p hp A b (by omega) (by omega : i < 10) fuel).2 (hno i (Nat.le_refl _) (by omega))
    obtain ⟨t1, t2⟩ := ih (i + 1) (max b (ml T n (wd i) p)) fuel (by omega) (by omega) (by omega) fun j h1 h2 => hno j (by omega) h2
    exact ⟨s1 t1, s2.trans t2⟩
/-- a command, as the reference reads it -/
def mdone (u : gV) (c k q : Nat) (A : Nat → Int32) : gV := vM (vM (mS u q 0 A) 568 c (nI k)) 559 19 (nI (c + 1))
def MR (T : Nat → Int32) (n p : Nat) (s : Sum Nat (Nat × Nat × List Int32)) : Prop := ∀ (u : gV) (c : Nat), TM T n c u → u.1 559 18 = nI p → u.1 559 20 = nI 0 → p_X12_command u ∧ (∀ q, s = Sum.inl q → ∃ A, f_X12_command u = mS u q 1 A) ∧ ∀ k q xs, s = Sum.inr (k, q, xs) → ∃ A, f_X12_command u = mdone u c k q A ∧ (∀ j, j < (its k).length → A (4 * c + j) = xs.getD j 0) ∧ ∀ j, j < 4 * c → A j = u.1 569 j
def SB (n p : Nat) (s : Sum Nat (Nat × Nat × List Int32)) : Prop := (∀ q, s = Sum.inl q → p ≤ q ∧ q ≤ n) ∧ ∀ k q xs, s = Sum.inr (k, q, xs) → k < 10 ∧ p + 5 ≤ q ∧ q ≤ n ∧ xs.length = (its k).length ∧ ∀ j, j < (its k).length → (∃ m, m < 200 ∧ xs.getD j 0 = nI m) ∧ (((its k).getD j (0, 0)).2 = 67 → isC (xs.getD j 0) = true)
theorem K_c27 {T : Nat → Int32} {n c : Nat} {u : gV} (h : TM T n c u) (k q : Nat) (A : Nat → Int32) : (p_X12_command_27 (nI k) (mS u q 1 A) ∧ f_X12_command_27 (nI k) (mS u q 1 A) = mS u q 1 A) ∧ p_X12_command_27 (nI k) (mS u q 0 A) ∧ f_X12_command_27 (nI k) (mS u q 0 A) = mdone u c k q A := by
  have hc := h.2.1
  have e19 : (mS u q 0 A).1 559 19 = nI c := by rw [mS_k _ _ _ _ (by omega) (by omega)]; exact h.2.2.2.1
  have g0 : nI 0 = 0 := rfl
  have e19' : (vM (mS u q 0 A) 568 c (nI k)).1 559 19 = nI c := by rw [vM_rw, vRow_ne _ _ (by omega)]; exact e19
  constructor
  · have n1 : ¬ nI 1 = 0 := n10
    rw [p_X12_command_27, f_X12_command_27, mS_20, if_neg n1]
    exact ⟨⟨fun g => absurd g n1, fun _ => trivial⟩, rfl⟩
  · rw [p_X12_command_27, f_X12_command_27, mS_20, if_pos g0, e19, cl_n (by omega), f_X12_command_45, e19', f_X12_command_55, li_1, nI_add]
    exact ⟨⟨fun _ => ⟨vi_n (by omega) (by omega), by rw [p_X12_command_45, p_X12_command_55]; trivial⟩, fun g => absurd g0 g⟩, rfl⟩
theorem K_cmd0 {u : gV} {k : Nat} {w : gV} (hk : k < 10) (h1 : p_X12_word u) (h2 : f_X12_word u = (nI k, w)) (h3 : mrsP (its k) 0 w) (h4 : p_X12_command_27 (nI k) (mrs (its k) 0 w)) : p_X12_command u ∧ f_X12_command u = f_X12_command_27 (nI k) (mrs (its k) 0 w) := by
  obtain ⟨m1, m2⟩ := M_cmd4 w k hk
  rw [p_X12_command, f_X12_command, p_X12_command_0, f_X12_command_0, h2]
  exact ⟨⟨h1, m2.mpr ⟨h3, h4⟩⟩, m1⟩
theorem MR_none {T : Nat → Int32} {n p : Nat} (hp : p ≤ n) (hno : ∀ j, j < 10 → ¬ ml T n (wd j) p = (wd j).length) : MR T n p (Sum.inl (p + msx T n p 10 0 0)) := by
  intro u c h h18 h20
  have hs := mS_self h18 h20
  obtain ⟨w1, w2⟩ := W_none h p hp (u.1 569) 10 0 0 5000 (by omega) (by omega) (by omega) fun j _ hj => hno j hj
  have hle := msx_le (T := T) hp 10 0 0 (by omega)
  rw [hs] at w1 w2
  generalize p + msx T n p 10 0 0 = q0 at w2 hle ⊢
  obtain ⟨k1, k2⟩ := K_mrs h (its 0) 0 (by decide) (its_ok 0 (by omega))
  obtain ⟨r1, A', r2⟩ := k1 q0 (u.1 569) hle
  obtain ⟨⟨c1, c2⟩, -⟩ := K_c27 h 0 q0 A'
  rw [← r2] at c1
  obtain ⟨d1, d2⟩ := K_cmd0 (u := u) (by omega) w1 w2 r1 c1
  rw [r2, c2] at d2
  refine ⟨d1, fun q hq => ?_, fun k q xs hq => by cases hq⟩
  cases hq
  exact ⟨A', d2⟩
theorem MR_some {T : Nat → Int32} {n p k : Nat} (hp : p ≤ n) (hk : k < 10) (hit : ml T n (wd k) p = (wd k).length) : (∀ q, rst T n (its k) (p + (wd k).length) = Sum.inl q → MR T n p (Sum.inl q)) ∧ ∀ q xs, rst T n (its k) (p + (wd k).length) = Sum.inr (q, xs) → MR T n p (Sum.inr (k, q, xs)) := by
  have hle := (ml_le T n (wd k) p hp).2
  rw [hit] at hle
  have h4 := (its_len k hk).1
  have hoth : ∀ j, j < k → ¬ ml T n (wd j) p = (wd j).length := fun j hj => (ml_other (T := T) (n := n) (p := p) hk (by omega) (by omega) hit).2
  have key : ∀ (u : gV) (c : Nat), TM T n c u → u.1 559 18 = nI p → u.1 559 20 = nI 0 → p_X12_word u ∧ f_X12_word u = (nI k, mS u (p + (wd k).length) 0 (u.1 569)) := fun u c h h18 h20 => by
    have hs := mS_self h18 h20
    have hw := W_some h p hp (u.1 569) hk hit k 0 0 5000 (by omega) (by omega) (by omega) fun j _ hj => hoth j hj
    obtain ⟨w1, w2⟩ := hw
    have e : ∀ w, w = u → f_X12_word_4 5000 (nI 0) (nI 0) w = f_X12_word u ∧ (p_X12_word_4 5000 (nI 0) (nI 0) w → p_X12_word u) := fun w hw => by
      subst hw
      exact ⟨rfl, id⟩
    obtain ⟨e1, e2⟩ := e _ hs
    exact ⟨e2 w1, e1.symm.trans w2⟩
  constructor
  · intro q hq u c h h18 h20
    obtain ⟨w1, w2⟩ := key u c h h18 h20
    obtain ⟨-, k2⟩ := K_mrs h (its k) 0 (by omega) (its_ok k hk)
    obtain ⟨r1, r2, -⟩ := k2 (p + (wd k).length) (u.1 569) hle
    obtain ⟨A', r2⟩ := r2 q hq
    obtain ⟨⟨c1, c2⟩, -⟩ := K_c27 h k q A'
    rw [← r2] at c1
    obtain ⟨d1, d2⟩ := K_cmd0 (u := u) hk w1 w2 r1 c1
    rw [r2, c2] at d2
    refine ⟨d1, fun q0 hq => ?_, fun k q xs hq => by cases hq⟩
    cases hq
    exact ⟨A', d2⟩
  · intro q xs hq u c h h18 h20
    obtain ⟨w1, w2⟩ := key u c h h18 h20
    obtain ⟨-, k2⟩ := K_mrs h (its k) 0 (by omega) (its_ok k hk)
    obtain ⟨r1, -, r2⟩ := k2 (p + (wd k).length) (u.1 569) hle
    obtain ⟨A', r2, r3, r4⟩ := r2 q xs hq
    obtain ⟨-, c1, c2⟩ := K_c27 h k q A'
    rw [← r2] at c1
    obtain ⟨d1, d2⟩ := K_cmd0 (u := u) hk w1 w2 r1 c1
    rw [r2, c2] at d2
    refine ⟨d1, fun q0 hq => (by cases hq), fun k0 q0 xs0 hq => ?_⟩
    cases hq
    exact ⟨A', d2, r3, r4⟩
theorem K_cmd (T : Nat → Int32) {n p : Nat} (hp : p ≤ n) : ∃ s, CR T n p s ∧ MR T n p s ∧ SB n p s := by
  by_cases hex : ∃ k, k < 10 ∧ ml T n (wd k) p = (wd k).length
  · obtain ⟨k, hk, hit⟩ := hex
    have hle := (ml_le T n (wd k) p hp).2
    rw [hit] at hle
    obtain ⟨c1, c2⟩ := CR_some hp hk hit
    obtain ⟨m1, m2⟩ := MR_some hp hk hit
    obtain ⟨r1, r2⟩ := rst_n (T := T) (n := n) (its k) (p + (wd k).length) hle (its_ok k hk)
    have h3 := (wd_len k hk).2
    have hf : ∀ k, k < 10 → ¬ ((its k).getD 0 (0, 0)).1 = 0 := by decide
    cases hr : rst T n (its k) (p + (wd k).length) with
    | inl q =>
      refine ⟨Sum.inl q, c1 q hr, m1 q hr, fun q0 hq => ?_, fun k q xs hq => by cases hq⟩
      cases hq
      have := r1 _ hr
      omega
    | inr z =>
      obtain ⟨q, xs⟩ := z
      refine ⟨Sum.inr (k, q, xs), c2 q xs hr, m2 q xs hr, fun q0 hq => (by cases hq), fun k0 q0 xs0 hq => ?_⟩
      cases hq
      obtain ⟨a1, a2, a3, a4, a5⟩ := r2 _ _ hr
      have := a5 (its_len k hk).2 (hf k hk)
      exact ⟨hk, by omega, a2, a3, a4⟩
  · have hno : ∀ j, j < 10 → ¬ ml T n (wd j) p = (wd j).length := fun j hj g => hex ⟨j, hj, g⟩
    have c := CR_none (T := T) hp hno
    have m := MR_none (T := T) hp hno
    have hle := msx_le (T := T) hp 10 0 0 (by omega)
    have hge : p ≤ p + msx T n p 10 0 0 := Nat.le_add_right _ _
    generalize p + msx T n p 10 0 0 = q0 at c m hle hge
    refine ⟨Sum.inl q0, c, m, fun q hq => ?_, fun k q xs hq => by cases hq⟩
    cases hq
    exact ⟨hge, hle⟩
