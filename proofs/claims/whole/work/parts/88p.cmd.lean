/-! one command of the script, on both sides -/
def wd (i : Nat) : List Nat := [[105, 110, 115, 117, 114, 101], [101, 110, 100], [116, 114, 101, 97, 116, 121], [118, 111, 105, 100], [99, 108, 97, 105, 109], [112, 97, 121], [99, 108, 111, 115, 101], [119, 97, 105, 118, 101], [111, 102, 102, 101, 114], [119, 97, 105, 116]].getD i []
def its (i : Nat) : List (Nat × Nat) := [[(32, 78), (32, 68), (32, 78)], [(32, 78)], [(32, 78), (43, 78), (42, 78), (32, 78)], [(32, 68)], [(32, 78), (0, 67), (0, 78)], [(32, 78), (32, 78)], [(32, 78)], [(32, 78)], [(32, 78), (45, 78), (32, 78)], [(32, 78)]].getD i []
def fl : List (Nat × Nat) → List Nat
  | [] => []
  | (c, K) :: L => if c = 0 then K :: fl L else c :: K :: fl L
theorem fm_split : ∀ i, i < 10 → fm i = wd i ++ fl (its i) := by decide
theorem wd_ch : ∀ i, i < 10 → ∀ c, c ∈ wd i → 97 ≤ c ∧ c < 128 := by decide
theorem wd_len : ∀ i, i < 10 → (wd i).length ≤ 6 ∧ 3 ≤ (wd i).length := by decide
theorem its_len : ∀ i, i < 10 → (its i).length ≤ 4 ∧ 1 ≤ (its i).length := by decide
theorem its_ok : ∀ i, i < 10 → ∀ x, x ∈ its i → (x.1 = 0 ∨ x.1 = 32 ∨ x.1 = 43 ∨ x.1 = 42 ∨ x.1 = 45) ∧ (x.2 = 78 ∨ x.2 = 68 ∨ x.2 = 67) ∧ (x.1 = 0 ∨ ¬ x.2 = 67) ∧ (¬ x.1 = 0 ∨ ¬ x.2 = 68) := by decide
theorem conf : ∀ i, i < 10 → ∀ j, j < 10 → i = j ∨ ∃ k, k < 6 ∧ k < (wd i).length ∧ k < (wd j).length ∧ ¬ (wd i).getD k 0 = (wd j).getD k 0 := by decide
section
variable (T : Nat → Int32) (n : Nat)
def ml : List Nat → Nat → Nat
  | [], _ => 0
  | c :: L, p => if p < n ∧ T p = nI c then ml L (p + 1) + 1 else 0
def it (p c K : Nat) : Sum Nat (Int32 × Nat) := if c = 0 then (rs T n p K).elim (Sum.inl p) Sum.inr else (rdL T n p c).elim (Sum.inl p) fun y => (rs T n y.2 K).elim (Sum.inl y.2) Sum.inr
def rst : List (Nat × Nat) → Nat → Sum Nat (Nat × List Int32)
  | [], p => Sum.inr (p, [])
  | (c, K) :: L, p => Sum.elim Sum.inl (fun y => Sum.elim Sum.inl (fun z => Sum.inr (z.1, y.1 :: z.2)) (rst L y.2)) (it T n p c K)
def msx (p : Nat) : Nat → Nat → Nat → Nat
  | 0, _, b => b
  | m + 1, i, b => msx p m (i + 1) (max b (ml T n (wd i) p))
end
theorem ml_le (T : Nat → Int32) (n : Nat) : ∀ (L : List Nat) (p : Nat), p ≤ n → ml T n L p ≤ L.length ∧ p + ml T n L p ≤ n := by
  intro L
  induction L with
  | nil => intro p hp; exact ⟨Nat.le_refl _, hp⟩
  | cons c L ih =>
    intro p hp
    unfold ml
    by_cases h : p < n ∧ T p = nI c
    · rw [if_pos h]
      have := ih (p + 1) (by omega)
      have e : (c :: L).length = L.length + 1 := rfl
      omega
    · rw [if_neg h]
      exact ⟨Nat.zero_le _, hp⟩
theorem ml_hit {T : Nat → Int32} {n : Nat} : ∀ {L : List Nat} {p : Nat}, ml T n L p = L.length → ∀ k, k < L.length → T (p + k) = nI (L.getD k 0) := by
  intro L
  induction L with
  | nil => intro p _ k hk; exact absurd hk (Nat.not_lt_zero _)
  | cons c L ih =>
    intro p h k hk
    have e : (c :: L).length = L.length + 1 := rfl
    unfold ml at h
    by_cases hc : p < n ∧ T p = nI c
    · rw [if_pos hc] at h
      cases k with
      | zero => exact hc.2
      | succ k =>
        have := ih (p := p + 1) (by omega) k (by omega)
        rw [show p + (k + 1) = p + 1 + k by omega, this]
        rfl
    · rw [if_neg hc] at h
      omega
theorem ml_mis {T : Nat → Int32} {n : Nat} : ∀ {L : List Nat} {p k : Nat}, k < L.length → ¬ T (p + k) = nI (L.getD k 0) → ml T n L p ≤ k := by
  intro L
  induction L with
  | nil => intro p k hk; exact absurd hk (Nat.not_lt_zero _)
  | cons c L ih =>
    intro p k hk hne
    have e : (c :: L).length = L.length + 1 := rfl
    unfold ml
    by_cases hc : p < n ∧ T p = nI c
    · rw [if_pos hc]
      cases k with
      | zero => exact absurd hc.2 hne
      | succ k =>
        have := ih (p := p + 1) (k := k) (by omega) (by
          rw [show p + 1 + k = p + (k + 1) by omega]
          exact hne)
        omega
    · rw [if_neg hc]
      exact Nat.zero_le _
theorem nI_ne {a b : Nat} (ha : a < 2147483648) (hb : b < 2147483648) (h : ¬ a = b) : ¬ nI a = nI b := fun g => h ((eq_n ha hb).mp g)
theorem getD_ch {i k : Nat} (hi : i < 10) (hk : k < (wd i).length) : 97 ≤ (wd i).getD k 0 ∧ (wd i).getD k 0 < 128 := by
  refine wd_ch i hi _ ?_
  have := List.getElem_mem hk
  rw [List.getD_eq_getElem?_getD, List.getElem?_eq_getElem hk]
  exact this
/-- two words never stand at one place; the other ends before -/
theorem ml_other {T : Nat → Int32} {n p i j : Nat} (hi : i < 10) (hj : j < 10) (hij : ¬ i = j) (h : ml T n (wd i) p = (wd i).length) : ml T n (wd j) p < (wd i).length ∧ ¬ ml T n (wd j) p = (wd j).length := by
  obtain ⟨k, _, k1, k2, k3⟩ := (conf i hi j hj).resolve_left hij
  have e := ml_hit h k k1
  have h1 := getD_ch hi k1
  have h2 := getD_ch hj k2
  have := ml_mis (T := T) (n := n) (L := wd j) (p := p) (k := k) k2 (by
    rw [e]
    exact nI_ne (by omega) (by omega) k3)
  omega
theorem msx_le {T : Nat → Int32} {n p : Nat} (hp : p ≤ n) : ∀ (m i b : Nat), p + b ≤ n → p + msx T n p m i b ≤ n := by
  intro m
  induction m with
  | zero => intro i b h; exact h
  | succ m ih =>
    intro i b h
    unfold msx
    have := (ml_le T n (wd i) p hp).2
    exact ih (i + 1) _ (by omega)
theorem rs_low {T : Nat → Int32} {n p c : Nat} (h : ¬ c = 78) (h2 : ¬ c = 68) (h3 : ¬ c = 67) : rs T n p c = rdL T n p c := by
  unfold rs
  rw [if_neg h, if_neg h2, if_neg h3]
theorem isP_low {c : Nat} (h : ¬ c = 78) (h2 : ¬ c = 68) (h3 : ¬ c = 67) : ¬ isP c = true := by
  unfold isP
  rw [decide_eq_false h, decide_eq_false h2, decide_eq_false h3]
  decide
theorem ft_word {T : Nat → Int32} {n : Nat} {R : List Nat} {r : Nat} {N : Nat → Int32} : ∀ (W : List Nat) (p : Nat), (∀ c, c ∈ W → 97 ≤ c ∧ c < 128) → ft T n (W ++ R) p r N = if ml T n W p = W.length then ft T n R (p + W.length) r N else (false, p + ml T n W p, N) := by
  intro W
  induction W with
  | nil => intro p _; exact (if_pos rfl).symm
  | cons c W ih =>
    intro p hW
    have hc := hW c List.mem_cons_self
    have e : (c :: W).length = W.length + 1 := rfl
    show (rs T n p c).elim (false, p, N) (fun xq => if isP c = true ∧ r < 4 then ft T n (W ++ R) xq.2 (r + 1) (upd N r xq.1) else ft T n (W ++ R) xq.2 r N) = _
    rw [rs_low (by omega) (by omega) (by omega)]
    unfold rdL ml
    by_cases h : p < n ∧ T p = nI c
    · rw [if_pos h, if_pos h]
      show (if isP c = true ∧ r < 4 then ft T n (W ++ R) (p + 1) (r + 1) (upd N r (T p)) else ft T n (W ++ R) (p + 1) r N) = _
      rw [if_neg (fun g => isP_low (by omega) (by omega) (by omega) g.1), ih (p + 1) fun c h => hW c (List.mem_cons_of_mem _ h), e]
      by_cases hm : ml T n W (p + 1) = W.length
      · rw [if_pos hm, if_pos (by omega), show p + 1 + W.length = p + (W.length + 1) by omega]
      · rw [if_neg hm, if_neg (by omega), show p + 1 + ml T n W (p + 1) = p + (ml T n W (p + 1) + 1) by omega]
    · rw [if_neg h, if_neg h, if_neg (by omega)]
      rfl
theorem isP_is {K : Nat} (h : K = 78 ∨ K = 68 ∨ K = 67) : isP K = true := by
  rcases h with rfl | rfl | rfl <;> rfl
theorem it_n {T : Nat → Int32} {n p c K : Nat} (hp : p ≤ n) (hc : c < 128) (hK : K < 128) : (∀ q, it T n p c K = Sum.inl q → p ≤ q ∧ q ≤ n) ∧ ∀ x q, it T n p c K = Sum.inr (x, q) → p < q ∧ q ≤ n ∧ (¬ c = 0 → p + 2 ≤ q) ∧ (∃ m, m < 200 ∧ x = nI m) ∧ (K = 67 → isC x = true) := by
  have hC : ∀ (p' q : Nat) (x : Int32), K = 67 → rs T n p' K = some (x, q) → isC x = true := fun p' q x h67 h => by
    subst h67
    have h : rdC T n p' = some (x, q) := h
    unfold rdC at h
    by_cases h1 : p' < n ∧ isC (T p') = true
    · rw [if_pos h1] at h
      cases h
      exact h1.2
    · rw [if_neg h1] at h
      cases h
  unfold it
  by_cases h0 : c = 0
  · rw [if_pos h0]
    cases hr : rs T n p K with
    | none => exact ⟨fun q h => by cases h; exact ⟨Nat.le_refl _, hp⟩, fun x q h => by cases h⟩
    | some y =>
      obtain ⟨x, q⟩ := y
      refine ⟨fun q h => (by cases h), fun x' q' h => ?_⟩
      cases h
      obtain ⟨a, b, _, d⟩ := rs_n hK hr
      exact ⟨a, b, fun g => absurd h0 g, d, fun g => hC _ _ _ g hr⟩
  · rw [if_neg h0]
    cases hl : rdL T n p c with
    | none => exact ⟨fun q h => by cases h; exact ⟨Nat.le_refl _, hp⟩, fun x q h => by cases h⟩
    | some y =>
      obtain ⟨y, p1⟩ := y
      have hl2 : p1 = p + 1 ∧ p < n := by
        unfold rdL at hl
        by_cases h1 : p < n ∧ T p = nI c
        · rw [if_pos h1] at hl
          cases hl
          exact ⟨rfl, h1.1⟩
        · rw [if_neg h1] at hl
          cases hl
      obtain ⟨rfl, hpn⟩ := hl2
      show (∀ q, (rs T n (p + 1) K).elim (Sum.inl (p + 1)) Sum.inr = Sum.inl q → p ≤ q ∧ q ≤ n) ∧ ∀ x q, (rs T n (p + 1) K).elim (Sum.inl (p + 1)) Sum.inr = Sum.inr (x, q) → _
      cases hr : rs T n (p + 1) K with
      | none => exact ⟨fun q h => by cases h; exact ⟨Nat.le_succ _, hpn⟩, fun x q h => by cases h⟩
      | some z =>
        obtain ⟨x, q⟩ := z
        refine ⟨fun q h => (by cases h), fun x' q' h => ?_⟩
        cases h
        obtain ⟨a, b, _, d⟩ := rs_n hK hr
        exact ⟨by omega, b, fun _ => by omega, d, fun g => hC _ _ _ g hr⟩
def itk (x : Nat × Nat) : Prop := (x.1 = 0 ∨ x.1 = 32 ∨ x.1 = 43 ∨ x.1 = 42 ∨ x.1 = 45) ∧ (x.2 = 78 ∨ x.2 = 68 ∨ x.2 = 67) ∧ (x.1 = 0 ∨ ¬ x.2 = 67) ∧ (¬ x.1 = 0 ∨ ¬ x.2 = 68)
theorem rst_n {T : Nat → Int32} {n : Nat} : ∀ (L : List (Nat × Nat)) (p : Nat), p ≤ n → (∀ x, x ∈ L → itk x) → (∀ q, rst T n L p = Sum.inl q → p ≤ q ∧ q ≤ n) ∧ ∀ q xs, rst T n L p = Sum.inr (q, xs) → p ≤ q ∧ q ≤ n ∧ xs.length = L.length ∧ (∀ j, j < L.length → (∃ m, m < 200 ∧ xs.getD j 0 = nI m) ∧ ((L.getD j (0, 0)).2 = 67 → isC (xs.getD j 0) = true)) ∧ (1 ≤ L.length → ¬ (L.getD 0 (0, 0)).1 = 0 → p + 2 ≤ q) := by
  intro L
  induction L with
  | nil =>
    intro p hp _
    refine ⟨fun q h => (by cases h), fun q xs h => ?_⟩
    cases h
    exact ⟨Nat.le_refl _, hp, rfl, fun j hj => absurd hj (Nat.not_lt_zero _), fun g => absurd g (by decide)⟩
  | cons x L ih =>
    intro p hp hL
    obtain ⟨c, K⟩ := x
    have hx : itk (c, K) := hL _ List.mem_cons_self
    have hc : c < 128 := by
      have h1 : c = 0 ∨ c = 32 ∨ c = 43 ∨ c = 42 ∨ c = 45 := hx.1
      omega
    have hK : K < 128 := by
      have h1 : K = 78 ∨ K = 68 ∨ K = 67 := hx.2.1
      omega
    obtain ⟨i1, i2⟩ := it_n (T := T) (n := n) hp hc hK
    show (∀ q, Sum.elim Sum.inl (fun y => Sum.elim Sum.inl (fun z => Sum.inr (z.1, y.1 :: z.2)) (rst T n L y.2)) (it T n p c K) = Sum.inl q → p ≤ q ∧ q ≤ n) ∧ ∀ q xs, Sum.elim Sum.inl (fun y => Sum.elim Sum.inl (fun z => Sum.inr (z.1, y.1 :: z.2)) (rst T n L y.2)) (it T n p c K) = Sum.inr (q, xs) → _
    cases hi : it T n p c K with
    | inl q0 => exact ⟨fun q h => by cases h; exact i1 _ hi, fun q xs h => by cases h⟩
    | inr y =>
      obtain ⟨y, p1⟩ := y
      obtain ⟨a1, a2, a3, a4, a5⟩ := i2 _ _ hi
      obtain ⟨r1, r2⟩ := ih p1 a2 fun x h => hL x (List.mem_cons_of_mem _ h)
      show (∀ q, Sum.elim Sum.inl (fun z => Sum.inr (z.1, y :: z.2)) (rst T n L p1) = Sum.inl q → p ≤ q ∧ q ≤ n) ∧ ∀ q xs, Sum.elim Sum.inl (fun z => Sum.inr (z.1, y :: z.2)) (rst T n L p1) = Sum.inr (q, xs) → _
      cases hr : rst T n L p1 with
      | inl q0 =>
        refine ⟨fun q h => ?_, fun q xs h => by cases h⟩
        cases h
        have := r1 _ hr
        omega
      | inr z =>
        obtain ⟨z, zs⟩ := z
        refine ⟨fun q h => (by cases h), fun q xs h => ?_⟩
        cases h
        obtain ⟨b1, b2, b3, b4, b5⟩ := r2 _ _ hr
        refine ⟨by omega, b2, ?_, fun j hj => ?_, fun _ h0 => ?_⟩
        · show zs.length + 1 = L.length + 1
          rw [b3]
        · cases j with
          | zero => exact ⟨a4, a5⟩
          | succ j => exact b4 j (Nat.lt_of_succ_lt_succ hj)
        · have := a3 h0
          omega
theorem ft_rst {T : Nat → Int32} {n : Nat} : ∀ (L : List (Nat × Nat)) (p r : Nat) (N : Nat → Int32), p ≤ n → (∀ x, x ∈ L → itk x) → r + L.length ≤ 4 → (∀ q, rst T n L p = Sum.inl q → ∃ N', ft T n (fl L) p r N = (false, q, N')) ∧ ∀ q xs, rst T n L p = Sum.inr (q, xs) → ∃ N', ft T n (fl L) p r N = (true, q, N') ∧ (∀ j, j < L.length → N' (r + j) = xs.getD j 0) ∧ ∀ j, j < r → N' j = N j := by
  intro L
  induction L with
  | nil =>
    intro p r N hp _ _
    refine ⟨fun q h => (by cases h), fun q xs h => ?_⟩
    cases h
    exact ⟨N, rfl, fun j hj => absurd hj (Nat.not_lt_zero _), fun _ _ => rfl⟩
  | cons x L ih =>
    intro p r N hp hL hr4
    obtain ⟨c, K⟩ := x
    have hr4 : r + (L.length + 1) ≤ 4 := hr4
    have hx : itk (c, K) := hL _ List.mem_cons_self
    have hc1 : c = 0 ∨ c = 32 ∨ c = 43 ∨ c = 42 ∨ c = 45 := hx.1
    have hK1 : K = 78 ∨ K = 68 ∨ K = 67 := hx.2.1
    obtain ⟨i1, i2⟩ := it_n (T := T) (n := n) (c := c) (K := K) hp (by omega) (by omega)
    have hP : isP K = true ∧ r < 4 := ⟨isP_is hK1, by omega⟩
    -- the class reads what stands for K at p1
    have hft : ∀ p1, p1 ≤ n → ft T n (K :: fl L) p1 r N = (rs T n p1 K).elim (false, p1, N) (fun y => ft T n (fl L) y.2 (r + 1) (upd N r y.1)) := fun p1 _ => by
      show (rs T n p1 K).elim (false, p1, N) (fun xq => if isP K = true ∧ r < 4 then ft T n (fl L) xq.2 (r + 1) (upd N r xq.1) else ft T n (fl L) xq.2 r N) = _
      congr 1
      funext y
      exact if_pos hP
    have hmain : ∃ e : Option Nat, True ∧ ft T n (fl ((c, K) :: L)) p r N = Sum.elim (fun q => (false, q, N)) (fun y => ft T n (fl L) y.2 (r + 1) (upd N r y.1)) (it T n p c K) := by
      refine ⟨none, trivial, ?_⟩
      unfold it
      by_cases h0 : c = 0
      · rw [if_pos h0, show fl ((c, K) :: L) = K :: fl L from if_pos h0, hft p hp]
        cases rs T n p K <;> rfl
      · rw [if_neg h0, show fl ((c, K) :: L) = c :: K :: fl L from if_neg h0]
        show (rs T n p c).elim (false, p, N) (fun xq => if isP c = true ∧ r < 4 then ft T n (K :: fl L) xq.2 (r + 1) (upd N r xq.1) else ft T n (K :: fl L) xq.2 r N) = _
        rw [rs_low (by omega) (by omega) (by omega)]
        unfold rdL
        by_cases h1 : p < n ∧ T p = nI c
        · rw [if_pos h1]
          show (if isP c = true ∧ r < 4 then ft T n (K :: fl L) (p + 1) (r + 1) (upd N r (T p)) else ft T n (K :: fl L) (p + 1) r N) = Sum.elim (fun q => (false, q, N)) (fun y => ft T n (fl L) y.2 (r + 1) (upd N r y.1)) ((rs T n (p + 1) K).elim (Sum.inl (p + 1)) Sum.inr)
          rw [if_neg (fun g => isP_low (by omega) (by omega) (by omega) g.1), hft (p + 1) (by omega)]
          cases rs T n (p + 1) K <;> rfl
        · rw [if_neg h1]
          rfl
    obtain ⟨_, _, hm⟩ := hmain
    rw [hm]
    show (∀ q, Sum.elim Sum.inl (fun y => Sum.elim Sum.inl (fun z => Sum.inr (z.1, y.1 :: z.2)) (rst T n L y.2)) (it T n p c K) = Sum.inl q → _) ∧ ∀ q xs, Sum.elim Sum.inl (fun y => Sum.elim Sum.inl (fun z => Sum.inr (z.1, y.1 :: z.2)) (rst T n L y.2)) (it T n p c K) = Sum.inr (q, xs) → _
    cases hi : it T n p c K with
    | inl q0 =>
      refine ⟨fun q h => ?_, fun q xs h => by cases h⟩
      cases h
      exact ⟨N, rfl⟩
    | inr y =>
      obtain ⟨y, p1⟩ := y
      obtain ⟨a1, a2, a3, a4, a5⟩ := i2 _ _ hi
      obtain ⟨r1, r2⟩ := ih p1 (r + 1) (upd N r y) a2 (fun x h => hL x (List.mem_cons_of_mem _ h)) (by omega)
      show (∀ q, Sum.elim Sum.inl (fun z => Sum.inr (z.1, y :: z.2)) (rst T n L p1) = Sum.inl q → ∃ N', ft T n (fl L) p1 (r + 1) (upd N r y) = (false, q, N')) ∧ ∀ q xs, Sum.elim Sum.inl (fun z => Sum.inr (z.1, y :: z.2)) (rst T n L p1) = Sum.inr (q, xs) → ∃ N', ft T n (fl L) p1 (r + 1) (upd N r y) = (true, q, N') ∧ _
      cases hr : rst T n L p1 with
      | inl q0 =>
        refine ⟨fun q h => ?_, fun q xs h => by cases h⟩
        cases h
        exact r1 _ hr
      | inr z =>
        obtain ⟨z, zs⟩ := z
        refine ⟨fun q h => (by cases h), fun q xs h => ?_⟩
        cases h
        obtain ⟨N', b1, b2, b3⟩ := r2 _ _ hr
        refine ⟨N', b1, fun j hj => ?_, fun j hj => ?_⟩
        · cases j with
          | zero =>
            show N' r = y
            rw [b3 r (by omega), upd_eq]
          | succ j =>
            have := b2 j (Nat.lt_of_succ_lt_succ hj)
            rw [show r + 1 + j = r + (j + 1) by omega] at this
            exact this
        · rw [b3 j (by omega), upd_ne (by omega)]
theorem nI_max {a b : Nat} (ha : a < 2147483648) (hb : b < 2147483648) : (if nI a < nI b then nI b else nI a) = nI (max a b) := by
  by_cases h : a < b
  · rw [if_pos ((lt_n ha hb).mpr h), Nat.max_eq_right (by omega)]
  · rw [if_neg (fun g => h ((lt_n ha hb).mp g)), Nat.max_eq_left (by omega)]
/-! the class -/
theorem C_step {T : Nat → Int32} {n : Nat} {v : gV} (h : TX T n v) {p : Nat} (hp : p ≤ n) {i : Nat} (hi : i < 10) (m b z : Nat) (hb : b ≤ n) (N : Nat → Int32) (bb : Bool) (q : Nat) (N' : Nat → Int32) (hf : ft T n (fm i) p 0 N = (bb, q, N')) : (bb = true → p_X7_readCommand_9 (m + 1) (nI p) (nI b) (nI i) (cS v z N) ∧ f_X7_readCommand_9 (m + 1) (nI p) (nI b) (nI i) (cS v z N) = (nI 1, vM (cS v q N') 553 2 (nI (i + 1)))) ∧ (bb = false → (p_X7_readCommand_9 m (nI p) (nI (max b q)) (nI (i + 1)) (cS v q N') → p_X7_readCommand_9 (m + 1) (nI p) (nI b) (nI i) (cS v z N)) ∧ f_X7_readCommand_9 (m + 1) (nI p) (nI b) (nI i) (cS v z N) = f_X7_readCommand_9 m (nI p) (nI (max b q)) (nI (i + 1)) (cS v q N')) := by
  have h1 := h.1
  obtain ⟨k1, k2, k3, k4⟩ := K_fits h hi p hp N
  rw [hf] at k2 k3
  have k3 : q ≤ n := k3
  have c10 : ¬ (10 : Int32) ≤ nI i := by rw [li_10, le_n (by omega) (by omega)]; omega
  have e1 : vM (cS v z N) 553 3 (nI p) = cS v p N := cS_pos _ _ _ _
  have hv : vp_in (nI i) 10 := vi_n hi (by omega)
  have ei : nI i + 1 = nI (i + 1) := by rw [li_1, nI_add]
  have k2 : f_X7_fits i (cS v p N) = (if bb = true then nI 1 else nI 0, cS v q N') := k2
  constructor
  · rintro rfl
    have k2 : f_X7_fits i (cS v p N) = (nI 1, cS v q N') := k2
    have g0 : ¬ nI 1 = 0 := n10
    constructor
    · rw [p_X7_readCommand_9, e1]
      refine ⟨fun g => absurd g c10, fun _ => ?_⟩
      rw [p_X7_readCommand_22, cl_n (by omega), k2]
      refine ⟨hv, k1, ?_⟩
      rw [p_X7_readCommand_34]
      exact ⟨fun g => absurd g g0, fun _ => ⟨hv, by rw [p_X7_readCommand_46]; trivial⟩⟩
    · rw [f_X7_readCommand_9, e1, if_neg c10, f_X7_readCommand_22, cl_n (by omega), k2, f_X7_readCommand_34, if_neg g0, cl_n (by omega), f_X7_readCommand_46]
      rfl
  · rintro rfl
    have k2 : f_X7_fits i (cS v p N) = (nI 0, cS v q N') := k2
    have g0 : nI 0 = 0 := rfl
    constructor
    · intro hq
      rw [p_X7_readCommand_9, e1]
      refine ⟨fun g => absurd g c10, fun _ => ?_⟩
      rw [p_X7_readCommand_22, cl_n (by omega), k2]
      refine ⟨hv, k1, ?_⟩
      rw [p_X7_readCommand_34, cS_p, nI_max (by omega) (by omega), ei]
      exact ⟨fun _ => hq, fun g => absurd g0 g⟩
    · rw [f_X7_readCommand_9, e1, if_neg c10, f_X7_readCommand_22, cl_n (by omega), k2, f_X7_readCommand_34, if_pos g0, cS_p, nI_max (by omega) (by omega), ei]
theorem C_end {v : gV} (m p b z : Nat) (N : Nat → Int32) : p_X7_readCommand_9 (m + 1) (nI p) (nI b) (nI 10) (cS v z N) ∧ f_X7_readCommand_9 (m + 1) (nI p) (nI b) (nI 10) (cS v z N) = (nI 0, cS v b N) := by
  have c10 : (10 : Int32) ≤ nI 10 := Int32.le_refl _
  rw [p_X7_readCommand_9, f_X7_readCommand_9, if_pos c10, cS_pos, f_X7_readCommand_68]
  exact ⟨⟨fun _ => by rw [p_X7_readCommand_68]; trivial, fun g => absurd c10 g⟩, rfl⟩
theorem ft_fm {T : Nat → Int32} {n p i : Nat} (hi : i < 10) (N : Nat → Int32) : ft T n (fm i) p 0 N = if ml T n (wd i) p = (wd i).length then ft T n (fl (its i)) (p + (wd i).length) 0 N else (false, p + ml T n (wd i) p, N) := by
  rw [fm_split i hi]
  exact ft_word (wd i) p (wd_ch i hi)
theorem C_fail {T : Nat → Int32} {n : Nat} {v : gV} (h : TX T n v) {p : Nat} (hp : p ≤ n) (N : Nat → Int32) : ∀ (m i b z fuel : Nat), i + m = 10 → m < fuel → p + b ≤ n → (∀ j, i ≤ j → j < 10 → ¬ ml T n (wd j) p = (wd j).length) → p_X7_readCommand_9 fuel (nI p) (nI (p + b)) (nI i) (cS v z N) ∧ f_X7_readCommand_9 fuel (nI p) (nI (p + b)) (nI i) (cS v z N) = (nI 0, cS v (p + msx T n p m i b) N) := by
  intro m
  induction m with
  | zero =>
    intro i b z fuel hi hf _ _
    obtain ⟨fuel, rfl⟩ : ∃ m, fuel = m + 1 := ⟨fuel - 1, by omega⟩
    have : i = 10 := by omega
    subst this
    exact C_end _ _ _ _ _
  | succ m ih =>
    intro i b z fuel hi hf hb hno
    obtain ⟨fuel, rfl⟩ : ∃ m, fuel = m + 1 := ⟨fuel - 1, by omega⟩
    have e : ft T n (fm i) p 0 N = (false, p + ml T n (wd i) p, N) := by rw [ft_fm (by omega), if_neg (hno i (Nat.le_refl _) (by omega))]
    have hle := (ml_le T n (wd i) p hp).2
    obtain ⟨s1, s2⟩ := (C_step h hp (by omega : i < 10) fuel (p + b) z hb N false _ N e).2 rfl
    have em : max (p + b) (p + ml T n (wd i) p) = p + max b (ml T n (wd i) p) := by omega
    rw [em] at s1 s2
    obtain ⟨t1, t2⟩ := ih (i + 1) (max b (ml T n (wd i) p)) (p + ml T n (wd i) p) fuel (by omega) (by omega) (by omega) fun j h1 h2 => hno j (by omega) h2
    exact ⟨s1 t1, s2.trans t2⟩
theorem C_tail {T : Nat → Int32} {n : Nat} {v : gV} (h : TX T n v) {p q : Nat} (hp : p ≤ n) (hq : q ≤ n) (N : Nat → Int32) : ∀ (m i z fuel : Nat), i + m = 10 → m < fuel → (∀ j, i ≤ j → j < 10 → ¬ ml T n (wd j) p = (wd j).length ∧ p + ml T n (wd j) p ≤ q) → p_X7_readCommand_9 fuel (nI p) (nI q) (nI i) (cS v z N) ∧ f_X7_readCommand_9 fuel (nI p) (nI q) (nI i) (cS v z N) = (nI 0, cS v q N) := by
  intro m
  induction m with
  | zero =>
    intro i z fuel hi hf _
    obtain ⟨fuel, rfl⟩ : ∃ m, fuel = m + 1 := ⟨fuel - 1, by omega⟩
    have : i = 10 := by omega
    subst this
    exact C_end _ _ _ _ _
  | succ m ih =>
    intro i z fuel hi hf hno
    obtain ⟨fuel, rfl⟩ : ∃ m, fuel = m + 1 := ⟨fuel - 1, by omega⟩
    obtain ⟨n1, n2⟩ := hno i (Nat.le_refl _) (by omega)
    have e : ft T n (fm i) p 0 N = (false, p + ml T n (wd i) p, N) := by rw [ft_fm (by omega), if_neg n1]
    obtain ⟨s1, s2⟩ := (C_step h hp (by omega : i < 10) fuel q z hq N false _ N e).2 rfl
    rw [Nat.max_eq_left n2] at s1 s2
    obtain ⟨t1, t2⟩ := ih (i + 1) (p + ml T n (wd i) p) fuel (by omega) (by omega) fun j h1 h2 => hno j (by omega) h2
    exact ⟨s1 t1, s2.trans t2⟩
theorem C_pre {T : Nat → Int32} {n : Nat} {v : gV} (h : TX T n v) {p k q : Nat} (hp : p ≤ n) (hk : k < 10) (hq : q ≤ n) (N : Nat → Int32) : ∀ (m i b z fuel : Nat), i + m = k → b ≤ q → (∀ j, i ≤ j → j < k → ¬ ml T n (wd j) p = (wd j).length ∧ p + ml T n (wd j) p ≤ q) → ∃ b' z', b' ≤ q ∧ (p_X7_readCommand_9 fuel (nI p) (nI b') (nI k) (cS v z' N) → p_X7_readCommand_9 (fuel + m) (nI p) (nI b) (nI i) (cS v z N)) ∧ f_X7_readCommand_9 (fuel + m) (nI p) (nI b) (nI i) (cS v z N) = f_X7_readCommand_9 fuel (nI p) (nI b') (nI k) (cS v z' N) := by
  intro m
  induction m with
  | zero =>
    intro i b z fuel hi hb _
    have : i = k := by omega
    subst this
    exact ⟨b, z, hb, id, rfl⟩
  | succ m ih =>
    intro i b z fuel hi hb hno
    obtain ⟨n1, n2⟩ := hno i (Nat.le_refl _) (by omega)
    have e : ft T n (fm i) p 0 N = (false, p + ml T n (wd i) p, N) := by rw [ft_fm (by omega), if_neg n1]
    obtain ⟨s1, s2⟩ := (C_step h hp (by omega : i < 10) (fuel + m) b z (by omega) N false _ N e).2 rfl
    obtain ⟨b', z', t0, t1, t2⟩ := ih (i + 1) (max b (p + ml T n (wd i) p)) (p + ml T n (wd i) p) fuel (by omega) (by omega) fun j h1 h2 => hno j (by omega) h2
    exact ⟨b', z', t0, fun g => s1 (t1 g), s2.trans t2⟩
/-- a command, as the class reads it -/
def CR (T : Nat → Int32) (n p : Nat) (s : Sum Nat (Nat × Nat × List Int32)) : Prop := ∀ v : gV, TX T n v → v.1 553 3 = nI p → p_X7_readCommand v ∧ (∀ q, s = Sum.inl q → ∃ N', f_X7_readCommand v = (nI 0, cS v q N')) ∧ ∀ k q xs, s = Sum.inr (k, q, xs) → ∃ N', f_X7_readCommand v = (nI 1, vM (cS v q N') 553 2 (nI (k + 1))) ∧ ∀ j, j < (its k).length → N' j = xs.getD j 0
theorem CR_none {T : Nat → Int32} {n p : Nat} (hp : p ≤ n) (hno : ∀ j, j < 10 → ¬ ml T n (wd j) p = (wd j).length) : CR T n p (Sum.inl (p + msx T n p 10 0 0)) := by
  intro v hv h3
  have hs := cS_self h3
  obtain ⟨a, b⟩ := C_fail hv hp (v.1 556) 10 0 0 p 5000 (by omega) (by omega) (by omega) fun j _ h => hno j h
  rw [hs] at a b
  rw [Nat.add_zero] at a b
  generalize p + msx T n p 10 0 0 = q0 at b ⊢
  refine ⟨?_, fun q h => ?_, fun k q xs h => by cases h⟩
  · show p_X7_readCommand_9 5000 (v.1 553 3) (v.1 553 3) (0 : Int32) v
    rw [h3]
    exact a
  · cases h
    refine ⟨v.1 556, ?_⟩
    show f_X7_readCommand_9 5000 (v.1 553 3) (v.1 553 3) (0 : Int32) v = _
    rw [h3]
    exact b
theorem CR_some {T : Nat → Int32} {n p k : Nat} (hp : p ≤ n) (hk : k < 10) (hit : ml T n (wd k) p = (wd k).length) : (∀ q, rst T n (its k) (p + (wd k).length) = Sum.inl q → CR T n p (Sum.inl q)) ∧ ∀ q xs, rst T n (its k) (p + (wd k).length) = Sum.inr (q, xs) → CR T n p (Sum.inr (k, q, xs)) := by
  have hle := (ml_le T n (wd k) p hp).2
  rw [hit] at hle
  have hoth : ∀ j, j < 10 → ¬ j = k → ¬ ml T n (wd j) p = (wd j).length ∧ p + ml T n (wd j) p ≤ p + (wd k).length := fun j hj hjk => by
    have := ml_other (T := T) (n := n) (p := p) hk hj (fun g => hjk g.symm) hit
    exact ⟨this.2, by omega⟩
  have hitk : ∀ x, x ∈ its k → itk x := its_ok k hk
  have h4 := (its_len k hk).1
  obtain ⟨r1, r2⟩ := rst_n (T := T) (n := n) (its k) (p + (wd k).length) hle hitk
  constructor
  · intro q hq v hv h3
    have hs := cS_self h3
    have hqb := r1 q hq
    obtain ⟨N', hN'⟩ := (ft_rst (T := T) (n := n) (its k) (p + (wd k).length) 0 (v.1 556) hle hitk (by omega)).1 q hq
    obtain ⟨b', z', t0, t1, t2⟩ := C_pre hv hp hk hle (v.1 556) k 0 p p (5000 - k) (by omega) (by omega) fun j _ h => hoth j (by omega) (by omega)
    rw [show 5000 - k + k = 5000 by omega] at t1 t2
    have e : ft T n (fm k) p 0 (v.1 556) = (false, q, N') := by rw [ft_fm hk, if_pos hit, hN']
    have hfu : 5000 - k = (4999 - k) + 1 := by omega
    rw [hfu] at t1 t2
    obtain ⟨s1, s2⟩ := (C_step hv hp hk (4999 - k) b' z' (by omega) (v.1 556) false q N' e).2 rfl
    rw [Nat.max_eq_right (by omega)] at s1 s2
    obtain ⟨w1, w2⟩ := C_tail hv hp (by omega : q ≤ n) N' (9 - k) (k + 1) q (4999 - k) (by omega) (by omega) fun j h1 h2 => by
      have := hoth j h2 (by omega)
      exact ⟨this.1, by omega⟩
    rw [hs] at t1 t2
    refine ⟨?_, fun q0 h => ?_, fun k q xs h => by cases h⟩
    · show p_X7_readCommand_9 5000 (v.1 553 3) (v.1 553 3) (0 : Int32) v
      rw [h3]
      exact t1 (s1 w1)
    · cases h
      refine ⟨N', ?_⟩
      show f_X7_readCommand_9 5000 (v.1 553 3) (v.1 553 3) (0 : Int32) v = _
      rw [h3]
      exact t2.trans (s2.trans w2)
  · intro q xs hq v hv h3
    have hs := cS_self h3
    have hqb := r2 q xs hq
    obtain ⟨N', hN', hx, -⟩ := (ft_rst (T := T) (n := n) (its k) (p + (wd k).length) 0 (v.1 556) hle hitk (by omega)).2 q xs hq
    obtain ⟨b', z', t0, t1, t2⟩ := C_pre hv hp hk hle (v.1 556) k 0 p p (5000 - k) (by omega) (by omega) fun j _ h => hoth j (by omega) (by omega)
    rw [show 5000 - k + k = 5000 by omega] at t1 t2
    have e : ft T n (fm k) p 0 (v.1 556) = (true, q, N') := by rw [ft_fm hk, if_pos hit, hN']
    have hfu : 5000 - k = (4999 - k) + 1 := by omega
    rw [hfu] at t1 t2
    obtain ⟨s1, s2⟩ := (C_step hv hp hk (4999 - k) b' z' (by omega) (v.1 556) true q N' e).1 rfl
    rw [hs] at t1 t2
    refine ⟨?_, fun q0 h => (by cases h), fun k0 q0 xs0 h => ?_⟩
    · show p_X7_readCommand_9 5000 (v.1 553 3) (v.1 553 3) (0 : Int32) v
      rw [h3]
      exact t1 s1
    · cases h
      refine ⟨N', ?_, fun j hj => by have := hx j hj; rw [Nat.zero_add] at this; exact this⟩
      show f_X7_readCommand_9 5000 (v.1 553 3) (v.1 553 3) (0 : Int32) v = _
      rw [h3]
      exact t2.trans s2
