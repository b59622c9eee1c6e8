/-! covers: by days, by sets, as the reference -/
def cov (F L : Nat → Nat) (n : Nat) (S : Nat → Bool) (a d : Nat) : Prop := ∀ y, a ≤ y → y ≤ d → ∃ i, i < n ∧ S i = true ∧ F i ≤ y ∧ y ≤ L i
def pS (P : Nat → Nat) (S : Nat → Bool) : Nat → Nat
  | 0 => 0
  | n + 1 => pS P S n + (if S n = true then P n else 0)
theorem lsN_pS (P : Nat → Nat) (x : Nat) : ∀ n : Nat, lsN P x n = pS P (bt x) n := by
  intro n
  induction n with
  | zero => rfl
  | succ n ih =>
    show lsN P x n + _ = pS P (bt x) n + _
    rw [ih]
theorem pS_congr {P : Nat → Nat} {S T : Nat → Bool} : ∀ {n : Nat}, (∀ i, i < n → S i = T i) → pS P S n = pS P T n := by
  intro n
  induction n with
  | zero => intro _; rfl
  | succ n ih =>
    intro h
    show pS P S n + (if S n = true then P n else 0) = pS P T n + (if T n = true then P n else 0)
    rw [ih fun i hi => h i (by omega), h n (by omega)]
theorem pS_ge {P : Nat → Nat} {S : Nat → Bool} : ∀ {n i : Nat}, i < n → S i = true → P i ≤ pS P S n := by
  intro n
  induction n with
  | zero => intro i h; omega
  | succ n ih =>
    intro i hi hs
    show P i ≤ pS P S n + (if S n = true then P n else 0)
    by_cases e : i = n
    · subst e
      rw [if_pos hs]
      omega
    · have := ih (i := i) (by omega) hs
      omega
theorem pS_le {P : Nat → Nat} {S : Nat → Bool} {c : Nat} : ∀ {n : Nat}, (∀ i, i < n → P i ≤ c) → pS P S n ≤ n * c := by
  intro n
  induction n with
  | zero => intro _; show 0 ≤ 0 * c; omega
  | succ n ih =>
    intro h
    have h1 := ih fun i hi => h i (by omega)
    have h2 := h n (by omega)
    show pS P S n + (if S n = true then P n else 0) ≤ (n + 1) * c
    rw [Nat.add_mul, Nat.one_mul]
    split <;> omega
theorem pS_mono {P Q : Nat → Nat} {S : Nat → Bool} : ∀ {n : Nat}, (∀ i, i < n → P i ≤ Q i) → pS P S n ≤ pS Q S n := by
  intro n
  induction n with
  | zero => intro _; exact Nat.le_refl _
  | succ n ih =>
    intro h
    have h1 := ih fun i hi => h i (by omega)
    have h2 := h n (by omega)
    show pS P S n + (if S n = true then P n else 0) ≤ pS Q S n + (if S n = true then Q n else 0)
    split <;> omega
theorem pS_lt {P Q : Nat → Nat} {S : Nat → Bool} : ∀ {n j : Nat}, (∀ i, i < n → P i ≤ Q i) → j < n → S j = true → P j < Q j → pS P S n < pS Q S n := by
  intro n
  induction n with
  | zero => intro j _ h; omega
  | succ n ih =>
    intro j h hj hs hlt
    have h2 := h n (by omega)
    show pS P S n + (if S n = true then P n else 0) < pS Q S n + (if S n = true then Q n else 0)
    by_cases e : j = n
    · subst e
      have h1 := pS_mono (S := S) (n := j) fun i hi => h i (by omega)
      rw [if_pos hs, if_pos hs]
      omega
    · have h1 := ih (j := j) (fun i hi => h i (by omega)) (by omega) hs hlt
      split <;> omega
/-- one taken out, one put in -/
theorem pS_out {P : Nat → Nat} {S : Nat → Bool} {i : Nat} (hs : S i = true) : ∀ {n : Nat}, i < n → pS P (fun j => if j = i then false else S j) n + P i = pS P S n := by
  intro n
  induction n with
  | zero => intro h; omega
  | succ n ih =>
    intro hi
    show pS P (fun j => if j = i then false else S j) n + (if (if n = i then false else S n) = true then P n else 0) + P i = pS P S n + (if S n = true then P n else 0)
    by_cases e : n = i
    · subst e
      rw [if_pos rfl, if_neg Bool.false_ne_true, if_pos hs, pS_congr (T := S) fun j hj => if_neg (by omega)]
      omega
    · rw [if_neg e]
      have := ih (by omega)
      omega
theorem pS_in {P : Nat → Nat} {S : Nat → Bool} {i : Nat} : ∀ {n : Nat}, pS P (fun j => if j = i then true else S j) n ≤ pS P S n + P i := by
  intro n
  induction n with
  | zero => exact Nat.zero_le _
  | succ n ih =>
    show pS P (fun j => if j = i then true else S j) n + (if (if n = i then true else S n) = true then P n else 0) ≤ pS P S n + (if S n = true then P n else 0) + P i
    by_cases e : n = i
    · subst e
      have h : pS P (fun j => if j = n then true else S j) n = pS P S n := pS_congr fun j hj => if_neg (by omega)
      rw [if_pos rfl, if_pos rfl, h]
      omega
    · rw [if_neg e]
      omega
theorem pS_f (P : Nat → Nat) : ∀ n : Nat, pS P (fun _ => false) n = 0 := by
  intro n
  induction n with
  | zero => rfl
  | succ n ih =>
    show pS P (fun _ => false) n + (if false = true then P n else 0) = 0
    rw [ih, if_neg Bool.false_ne_true]
/-- each set is a row of bits -/
theorem bits_of (S : Nat → Bool) : ∀ n : Nat, n ≤ 8 → ∃ x, x < 2 ^ n ∧ ∀ i, i < n → bt x i = S i := by
  intro n
  induction n with
  | zero => intro _; exact ⟨0, by decide, fun i h => by omega⟩
  | succ n ih =>
    intro hn
    obtain ⟨x, hx, hb⟩ := ih (by omega)
    have h2 : 2 ^ (n + 1) = 2 ^ n + 2 ^ n := by rw [Nat.pow_succ]; omega
    cases hs : S n with
    | true =>
      refine ⟨2 ^ n + x, by omega, fun i hi => ?_⟩
      by_cases e : i = n
      · subst e
        rw [(bt_top i (by omega) x hx).1, hs]
      · rw [bt_hi n (by omega) x hx i (by omega)]
        exact hb i (by omega)
    | false =>
      refine ⟨x, by omega, fun i hi => ?_⟩
      by_cases e : i = n
      · subst e
        rw [(bt_top i (by omega) x hx).2, hs]
      · exact hb i (by omega)
def Best (F L P : Nat → Nat) (n a d v : Nat) : Prop := v ≤ 1000 ∧ (∀ S, cov F L n S a d → v ≤ pS P S n) ∧ (v = 1000 ∨ ∃ S, cov F L n S a d ∧ pS P S n ≤ v)
theorem best_uniq {F L P : Nat → Nat} {n a d v v' : Nat} (hn : n ≤ 8) (hP : ∀ i, i < n → P i ≤ 50) (h : Best F L P n a d v) (g : Best F L P n a d v') : v = v' := by
  obtain ⟨h1, h2, h3⟩ := h
  obtain ⟨g1, g2, g3⟩ := g
  have hle : ∀ S, pS P S n ≤ 400 := fun S => by
    have := pS_le (P := P) (S := S) (c := 50) (n := n) hP
    omega
  rcases h3 with rfl | ⟨S, s1, s2⟩
  · rcases g3 with rfl | ⟨T, t1, t2⟩
    · rfl
    · have := h2 T t1
      have := hle T
      omega
  · have a1 := g2 S s1
    have a2 := hle S
    rcases g3 with rfl | ⟨T, t1, t2⟩
    · omega
    · have := h2 T t1
      omega
/-- the least over a loop -/
def mnS (c : Nat → Bool) (g : Nat → Nat) (i b : Nat) : Nat := if c i = true then (if g i < b then g i else b) else b
theorem mn_spec (c : Nat → Bool) (g : Nat → Nat) (k b0 : Nat) : ∀ m : Nat, lp (mnS c g) m k b0 ≤ b0 ∧ (∀ i, k ≤ i → i < k + m → c i = true → lp (mnS c g) m k b0 ≤ g i) ∧ (lp (mnS c g) m k b0 = b0 ∨ ∃ i, k ≤ i ∧ i < k + m ∧ c i = true ∧ lp (mnS c g) m k b0 = g i) := by
  intro m
  induction m with
  | zero => exact ⟨Nat.le_refl _, fun i h1 h2 => by omega, Or.inl rfl⟩
  | succ m ih =>
    obtain ⟨h1, h2, h3⟩ := ih
    rw [lp_last]
    generalize lp (mnS c g) m k b0 = r at h1 h2 h3
    unfold mnS
    by_cases hc : c (k + m) = true
    · rw [if_pos hc]
      by_cases hg : g (k + m) < r
      · rw [if_pos hg]
        refine ⟨by omega, fun i a b hi => ?_, Or.inr ⟨k + m, by omega, by omega, hc, rfl⟩⟩
        by_cases e : i = k + m
        · subst e
          exact Nat.le_refl _
        · have := h2 i a (by omega) hi
          omega
      · rw [if_neg hg]
        refine ⟨h1, fun i a b hi => ?_, h3.imp id fun ⟨i, a, b, e⟩ => ⟨i, a, by omega, e⟩⟩
        by_cases e : i = k + m
        · subst e
          omega
        · exact h2 i a (by omega) hi
    · rw [if_neg hc]
      refine ⟨h1, fun i a b hi => ?_, h3.imp id fun ⟨i, a, b, e⟩ => ⟨i, a, by omega, e⟩⟩
      by_cases e : i = k + m
      · subst e
        exact absurd hi hc
      · exact h2 i a (by omega) hi
def mxS (c : Nat → Bool) (g : Nat → Nat) (i b : Nat) : Nat := if c i = true then (if b < g i then g i else b) else b
theorem mx_spec (c : Nat → Bool) (g : Nat → Nat) (k b0 : Nat) : ∀ m : Nat, b0 ≤ lp (mxS c g) m k b0 ∧ (∀ i, k ≤ i → i < k + m → c i = true → g i ≤ lp (mxS c g) m k b0) ∧ (lp (mxS c g) m k b0 = b0 ∨ ∃ i, k ≤ i ∧ i < k + m ∧ c i = true ∧ lp (mxS c g) m k b0 = g i) := by
  intro m
  induction m with
  | zero => exact ⟨Nat.le_refl _, fun i h1 h2 => by omega, Or.inl rfl⟩
  | succ m ih =>
    obtain ⟨h1, h2, h3⟩ := ih
    rw [lp_last]
    generalize lp (mxS c g) m k b0 = r at h1 h2 h3
    unfold mxS
    by_cases hc : c (k + m) = true
    · rw [if_pos hc]
      by_cases hg : r < g (k + m)
      · rw [if_pos hg]
        refine ⟨by omega, fun i a b hi => ?_, Or.inr ⟨k + m, by omega, by omega, hc, rfl⟩⟩
        by_cases e : i = k + m
        · subst e
          exact Nat.le_refl _
        · have := h2 i a (by omega) hi
          omega
      · rw [if_neg hg]
        refine ⟨h1, fun i a b hi => ?_, h3.imp id fun ⟨i, a, b, e⟩ => ⟨i, a, by omega, e⟩⟩
        by_cases e : i = k + m
        · subst e
          omega
        · exact h2 i a (by omega) hi
    · rw [if_neg hc]
      refine ⟨h1, fun i a b hi => ?_, h3.imp id fun ⟨i, a, b, e⟩ => ⟨i, a, by omega, e⟩⟩
      by_cases e : i = k + m
      · subst e
        exact absurd hi hc
      · exact h2 i a (by omega) hi
def elg (F L : Nat → Nat) (d i : Nat) : Bool := decide (F i ≤ d) && decide (d ≤ L i)
theorem elg_t {F L : Nat → Nat} {d i : Nat} : elg F L d i = true ↔ F i ≤ d ∧ d ≤ L i := by
  unfold elg
  rw [Bool.and_eq_true, decide_eq_true_iff, decide_eq_true_iff]
def bef (F : Nat → Nat) (pu : Nat → Nat) (a i : Nat) : Nat := if a < F i then pu (F i - 1) else 0
theorem best_step {F L P : Nat → Nat} {n a d : Nat} {pu : Nat → Nat} (had : a ≤ d) (hP : ∀ i, i < n → 1 ≤ P i) (hpu : ∀ y, a ≤ y → y < d → Best F L P n a y (pu y)) : Best F L P n a d (lp (mnS (elg F L d) (fun i => bef F pu a i + P i)) n 0 1000) := by
  obtain ⟨h1, h2, h3⟩ := mn_spec (elg F L d) (fun i => bef F pu a i + P i) 0 1000 n
  rw [Nat.zero_add] at h2 h3
  generalize lp (mnS (elg F L d) (fun i => bef F pu a i + P i)) n 0 1000 = v at h1 h2 h3
  refine ⟨h1, fun S hS => ?_, h3.imp id fun ⟨i, _, hi, hc, hv⟩ => ?_⟩
  · obtain ⟨i, hi, hs, hf, hl⟩ := hS d had (Nat.le_refl _)
    have hv := h2 i (Nat.zero_le _) hi (elg_t.mpr ⟨hf, hl⟩)
    show v ≤ pS P S n
    have hv : v ≤ bef F pu a i + P i := hv
    unfold bef at hv
    by_cases ha : a < F i
    · rw [if_pos ha] at hv
      have hb := (hpu (F i - 1) (by omega) (by omega)).2.1 (fun j => if j = i then false else S j) fun y y1 y2 => by
        obtain ⟨j, j1, j2, j3, j4⟩ := hS y y1 (by omega)
        refine ⟨j, j1, ?_, j3, j4⟩
        show (if j = i then false else S j) = true
        rw [if_neg (by intro e; subst e; omega)]
        exact j2
      have := pS_out (P := P) hs hi
      omega
    · rw [if_neg ha] at hv
      have := pS_ge (P := P) hi hs
      omega
  · rw [elg_t] at hc
    have hv : v = bef F pu a i + P i := hv
    unfold bef at hv
    by_cases ha : a < F i
    · rw [if_pos ha] at hv
      obtain ⟨-, -, b3⟩ := hpu (F i - 1) (by omega) (by omega)
      rcases b3 with b3 | ⟨S, s1, s2⟩
      · have := hP i hi
        omega
      · refine ⟨fun j => if j = i then true else S j, fun y y1 y2 => ?_, ?_⟩
        · by_cases hy : y ≤ F i - 1
          · obtain ⟨j, j1, j2, j3, j4⟩ := s1 y y1 hy
            refine ⟨j, j1, ?_, j3, j4⟩
            show (if j = i then true else S j) = true
            by_cases e : j = i
            · rw [if_pos e]
            · rw [if_neg e]
              exact j2
          · exact ⟨i, hi, if_pos rfl, by omega, by omega⟩
        · have := pS_in (P := P) (S := S) (i := i) (n := n)
          omega
    · rw [if_neg ha] at hv
      refine ⟨fun j => if j = i then true else false, fun y y1 y2 => ⟨i, hi, if_pos rfl, by omega, by omega⟩, ?_⟩
      have := pS_in (P := P) (S := fun _ => false) (i := i) (n := n)
      have h0 : pS P (fun _ => false) n = 0 := pS_f P n
      omega
/-! the data of a row -/
def dF (w : Nat → Int32) (i : Nat) : Nat := (w (232 + 4 * i)).toInt.toNat
def dL (w : Nat → Int32) (i : Nat) : Nat := (w (232 + 4 * i + 1)).toInt.toNat
def dP (w : Nat → Int32) (i : Nat) : Nat := (w (232 + 4 * i + 2)).toInt.toNat
theorem d_eq {w : Nat → Int32} {no i : Nat} (wo : WFo w no) (hi : i < no) : w (232 + 4 * i) = nI (dF w i) ∧ w (232 + 4 * i + 1) = nI (dL w i) ∧ w (232 + 4 * i + 2) = nI (dP w i) ∧ dF w i ≤ dL w i ∧ dL w i ≤ 99 ∧ 1 ≤ dP w i ∧ dP w i ≤ 50 := by
  have h := wo i hi
  unfold dF dL dP
  exact ⟨i_nn (by omega), i_nn (by omega), i_nn (by omega), by omega, by omega, by omega, by omega⟩
def BestW (w : Nat → Int32) (no a d v : Nat) : Prop := Best (dF w) (dL w) (dP w) no a d v
theorem bestW_uniq {w : Nat → Int32} {no a d v v' : Nat} (hn : no ≤ 8) (wo : WFo w no) (h : BestW w no a d v) (g : BestW w no a d v') : v = v' := best_uniq hn (fun i hi => (d_eq wo hi).2.2.2.2.2.2) h g
/-! the class, by days -/
theorem L_until {v : gV} {w : Nat → Int32} {no a d : Nat} {pu : Nat → Nat} (s : v.1 46 4 = nI no) (hn : no ≤ 8) (wo : WFo w no) (bo : BRo v 1 w no) (had : a ≤ d) (hd : d ≤ 99) (hpu : ∀ y, a ≤ y → y < d → v.1 50 y = nI (pu y) ∧ pu y ≤ 1000) : ∀ (m i fuel b : Nat), i + m = no → m < fuel → b ≤ 1000 → p_X4_priceUntil_7 1 fuel (nI a) (nI d) (nI b) (nI i) v ∧ f_X4_priceUntil_7 1 fuel (nI a) (nI d) (nI b) (nI i) v = nI (lp (mnS (elg (dF w) (dL w) d) (fun i => bef (dF w) pu a i + dP w i)) m i b) := by
  intro m
  induction m with
  | zero =>
    intro i fuel b hk hf hb
    obtain ⟨f, rfl⟩ := fuel_s hf
    have hle : nI no ≤ nI i := nI_le (by omega) (by omega)
    have s' : v.1 (1 + 45) 4 = nI no := s
    rw [p_X4_priceUntil_7, f_X4_priceUntil_7, s', if_pos hle]
    exact ⟨⟨fun _ => trivial, fun h => absurd hle h⟩, rfl⟩
  | succ m ih =>
    intro i fuel b hk hf hb
    obtain ⟨f, rfl⟩ := fuel_s hf
    have hle : ¬ nI no ≤ nI i := nI_ge (by omega) (by omega)
    have s' : v.1 (1 + 45) 4 = nI no := s
    have hv : vp_in (nI i) 8 := vi_n (by omega) (by omega)
    have hcl : (nI i).toNatClampNeg = i := cl_n (by omega)
    obtain ⟨e1, e2, e3, e4, e5, e6, e7⟩ := d_eq wo (i := i) (by omega)
    obtain ⟨o1, o2, o3⟩ := bo i (by omega)
    have o1' : v.1 (1 + 46) i = nI (dF w i) := o1.trans e1
    have o2' : v.1 (1 + 47) i = nI (dL w i) := o2.trans e2
    have o3' : v.1 (1 + 48) i = nI (dP w i) := o3.trans e3
    have hbb : mnS (elg (dF w) (dL w) d) (fun i => bef (dF w) pu a i + dP w i) i b ≤ 1000 := by
      unfold mnS
      split
      · split <;> omega
      · exact hb
    have hi := ih (i + 1) f (mnS (elg (dF w) (dL w) d) (fun i => bef (dF w) pu a i + dP w i) i b) (by omega) (by omega) hbb
    rw [p_X4_priceUntil_7, f_X4_priceUntil_7, s', if_neg hle, lp_s]
    simp only [f_X4_priceUntil_84, p_X4_priceUntil_84, f_X4_priceUntil_67, p_X4_priceUntil_67, nI_1, hcl, o1', o2', o3']
    by_cases h1 : d < dF w i
    · have h1' : nI d < nI (dF w i) := by rw [lt_n (by omega) (by omega)]; exact h1
      have he : elg (dF w) (dL w) d i = false := by
        rw [Bool.eq_false_iff]
        intro h
        rw [elg_t] at h
        omega
      have hm : mnS (elg (dF w) (dL w) d) (fun i => bef (dF w) pu a i + dP w i) i b = b := by
        unfold mnS
        rw [he, if_neg Bool.false_ne_true]
      rw [hm] at hi ⊢
      rw [if_pos h1']
      exact ⟨⟨fun h => absurd h hle, fun _ => ⟨hv, fun _ => hi.1, fun h => absurd h1' h⟩⟩, hi.2⟩
    · have h1' : ¬ nI d < nI (dF w i) := by rw [lt_n (by omega) (by omega)]; exact h1
      rw [if_neg h1']
      by_cases h2 : dL w i < d
      · have h2' : nI (dL w i) < nI d := by rw [lt_n (by omega) (by omega)]; exact h2
        have he : elg (dF w) (dL w) d i = false := by
          rw [Bool.eq_false_iff]
          intro h
          rw [elg_t] at h
          omega
        have hm : mnS (elg (dF w) (dL w) d) (fun i => bef (dF w) pu a i + dP w i) i b = b := by
          unfold mnS
          rw [he, if_neg Bool.false_ne_true]
        rw [hm] at hi ⊢
        rw [if_pos h2']
        exact ⟨⟨fun h => absurd h hle, fun _ => ⟨hv, fun h => absurd h h1', fun _ => ⟨hv, fun _ => hi.1, fun h => absurd h2' h⟩⟩⟩, hi.2⟩
      · have h2' : ¬ nI (dL w i) < nI d := by rw [lt_n (by omega) (by omega)]; exact h2
        have he : elg (dF w) (dL w) d i = true := elg_t.mpr ⟨by omega, by omega⟩
        have hm : mnS (elg (dF w) (dL w) d) (fun i => bef (dF w) pu a i + dP w i) i b = if bef (dF w) pu a i + dP w i < b then bef (dF w) pu a i + dP w i else b := by
          unfold mnS
          rw [he, if_pos rfl]
        rw [if_neg h2']
        by_cases h3 : a < dF w i
        · have h3' : nI a < nI (dF w i) := by rw [lt_n (by omega) (by omega)]; exact h3
          obtain ⟨u1, u2⟩ := hpu (dF w i - 1) (by omega) (by omega)
          have hs1 : nI (dF w i) - (1 : Int32) = nI (dF w i - 1) := by rw [li_1, sub_n (by omega)]
          have hcl2 : (nI (dF w i - 1)).toNatClampNeg = dF w i - 1 := cl_n (by omega)
          have u1' : v.1 (1 + 49) (dF w i - 1) = nI (pu (dF w i - 1)) := u1
          have hv2 : vp_in (nI (dF w i - 1)) 100 := vi_n (by omega) (by omega)
          have hbe : bef (dF w) pu a i = pu (dF w i - 1) := if_pos h3
          rw [hm, hbe] at hi
          rw [hm, hbe, if_pos h3']
          rw [hs1, hcl2, u1', nI_add, min_n (by omega) (by omega)]
          exact ⟨⟨fun h => absurd h hle, fun _ => ⟨hv, fun h => absurd h h1', fun _ => ⟨hv, fun h => absurd h h2', fun _ => ⟨hv, fun _ => ⟨hv, hv2, hv, hi.1⟩, fun h => absurd h3' h⟩⟩⟩⟩, hi.2⟩
        · have h3' : ¬ nI a < nI (dF w i) := by rw [lt_n (by omega) (by omega)]; exact h3
          have hbe : bef (dF w) pu a i = 0 := if_neg h3
          rw [hm, hbe] at hi
          rw [hm, hbe, if_neg h3']
          rw [li_0, nI_add, min_n (by omega) (by omega)]
          exact ⟨⟨fun h => absurd h hle, fun _ => ⟨hv, fun h => absurd h h1', fun _ => ⟨hv, fun h => absurd h h2', fun _ => ⟨hv, fun h => absurd h h3', fun _ => ⟨hv, hi.1⟩⟩⟩⟩⟩, hi.2⟩
theorem L_byDays {v : gV} {w : Nat → Int32} {no a e : Nat} (s : v.1 46 4 = nI no) (hn : no ≤ 8) (wo : WFo w no) (bo : BRo v 1 w no) (hae : a ≤ e) (he : e ≤ 99) : ∀ (m d fuel : Nat) (r : Nat → Int32), d + m = e + 1 → a ≤ d → m < fuel → (∀ y, a ≤ y → y < d → ∃ q, r y = nI q ∧ BestW w no a y q) → p_X4_cheapestByDays_2 1 fuel (nI a) (nI e) (nI d) (vRow v 50 r) ∧ ∃ q r', BestW w no a e q ∧ f_X4_cheapestByDays_2 1 fuel (nI a) (nI e) (nI d) (vRow v 50 r) = (nI q, vRow v 50 r') := by
  intro m
  induction m with
  | zero =>
    intro d fuel r hk had hf hr
    obtain ⟨f, rfl⟩ := fuel_s hf
    have hlt : nI e < nI d := by rw [lt_n (by omega) (by omega)]; omega
    obtain ⟨q, q1, q2⟩ := hr e hae (by omega)
    have hcl : (vRow v 50 r).1 (1 + 49) (nI e).toNatClampNeg = nI q := by
      rw [cl_n (by omega)]
      exact (congrFun (vRow_eq v 50 r) e).trans q1
    rw [p_X4_cheapestByDays_2, f_X4_cheapestByDays_2, if_pos hlt, hcl]
    exact ⟨⟨fun _ => ⟨vi_n (by omega) (by omega), trivial⟩, fun h => absurd hlt h⟩, q, r, q2, rfl⟩
  | succ m ih =>
    intro d fuel r hk had hf hr
    obtain ⟨f, rfl⟩ := fuel_s hf
    have hlt : ¬ nI e < nI d := by rw [lt_n (by omega) (by omega)]; omega
    have hr50 : (vRow v 50 r).1 50 = r := vRow_eq _ _ _
    have hpu : ∀ y, a ≤ y → y < d → r y = nI ((r y).toInt.toNat) ∧ BestW w no a y ((r y).toInt.toNat) := fun y y1 y2 => by
      obtain ⟨q, q1, q2⟩ := hr y y1 y2
      have h1000 := q2.1
      have e : (r y).toInt.toNat = q := by
        rw [q1, tI (by omega)]
        omega
      rw [e]
      exact ⟨q1, q2⟩
    have s' : (vRow v 50 r).1 46 4 = nI no := by rw [vRow_ne _ _ (by omega)]; exact s
    have bo' : BRo (vRow v 50 r) 1 w no := BRo_congr hn (fun o h1 h2 => vRow_ne _ _ (by omega)) (fun _ _ _ => rfl) bo
    obtain ⟨k1, k2⟩ := L_until (v := vRow v 50 r) (pu := fun y => (r y).toInt.toNat) s' hn wo bo' had (by omega) (fun y y1 y2 => by
      rw [hr50]
      exact ⟨(hpu y y1 y2).1, (hpu y y1 y2).2.1⟩) no 0 5000 1000 (by omega) (by omega) (by omega)
    have hbest := best_step (F := dF w) (L := dL w) (P := dP w) (n := no) (pu := fun y => (r y).toInt.toNat) had (fun i hi => (d_eq wo hi).2.2.2.2.2.1) fun y y1 y2 => (hpu y y1 y2).2
    generalize lp (mnS (elg (dF w) (dL w) d) (fun i => bef (dF w) (fun y => (r y).toInt.toNat) a i + dP w i)) no 0 1000 = q at k2 hbest
    have k1' : p_X4_priceUntil 1 (nI a) (nI d) (vRow v 50 r) := k1
    have k2' : f_X4_priceUntil 1 (nI a) (nI d) (vRow v 50 r) = nI q := k2
    have hst : vM (vRow v 50 r) (1 + 49) d (nI q) = vRow v 50 (upd r d (nI q)) := by
      rw [vM_rw, show 1 + 49 = 50 from rfl, vRow_row, vRow_eq]
    obtain ⟨i1, q', r', i2, i3⟩ := ih (d + 1) f (upd r d (nI q)) (by omega) (by omega) (by omega) fun y y1 y2 => by
      by_cases e : y = d
      · subst e
        exact ⟨q, upd_eq _ _ _, hbest⟩
      · rw [upd_ne e]
        exact hr y y1 (by omega)
    rw [p_X4_cheapestByDays_2, f_X4_cheapestByDays_2, if_neg hlt, k2', cl_n (by omega), hst]
    simp only [f_X4_cheapestByDays_19, p_X4_cheapestByDays_19, nI_1]
    exact ⟨⟨fun h => absurd h hlt, fun _ => ⟨k1', vi_n (by omega) (by omega), i1⟩⟩, q', r', i2, i3⟩
theorem K_byDays {v : gV} {w : Nat → Int32} {no a e : Nat} (s : v.1 46 4 = nI no) (hn : no ≤ 8) (wo : WFo w no) (bo : BRo v 1 w no) (hae : a ≤ e) (he : e ≤ 99) : p_X4_cheapestByDays 1 (nI a) (nI e) v ∧ ∃ q r', BestW w no a e q ∧ f_X4_cheapestByDays 1 (nI a) (nI e) v = (nI q, vRow v 50 r') := by
  have h := L_byDays s hn wo bo hae he (e + 1 - a) a 5000 (v.1 50) (by omega) (by omega) (by omega) fun y y1 y2 => by omega
  rw [vRow_self] at h
  exact h
/-! the class, by sets -/
theorem max_n {a b : Nat} (ha : a < 2147483648) (hb : b < 2147483648) : (if nI a < nI b then nI b else nI a) = nI (if a < b then b else a) := by
  by_cases h : a < b
  · rw [if_pos (by rw [lt_n ha hb]; exact h), if_pos h]
  · rw [if_neg (by rw [lt_n ha hb]; exact h), if_neg h]
def rch (F : Nat → Nat) (x o i : Nat) : Bool := bt x i && decide (F i ≤ o)
theorem rch_t {F : Nat → Nat} {x o i : Nat} : rch F x o i = true ↔ bt x i = true ∧ F i ≤ o := by
  unfold rch
  rw [Bool.and_eq_true, decide_eq_true_iff]
theorem L_dayAfter {v : gV} {w : Nat → Int32} {no x o : Nat} (s : v.1 46 4 = nI no) (hn : no ≤ 8) (hx : x < 256) (wo : WFo w no) (bo : BRo v 1 w no) (ho : o ≤ 100) : ∀ (m i fuel c : Nat), i + m = no → m < fuel → c ≤ 100 → p_X4_dayAfter_5 1 fuel (nI x) (nI o) (nI c) (nI i) v ∧ f_X4_dayAfter_5 1 fuel (nI x) (nI o) (nI c) (nI i) v = nI (lp (mxS (rch (dF w) x o) (fun i => dL w i + 1)) m i c) := by
  intro m
  induction m with
  | zero =>
    intro i fuel c hk hf hc
    obtain ⟨f, rfl⟩ := fuel_s hf
    have hle : nI no ≤ nI i := nI_le (by omega) (by omega)
    have s' : v.1 (1 + 45) 4 = nI no := s
    rw [p_X4_dayAfter_5, f_X4_dayAfter_5, s', if_pos hle]
    exact ⟨⟨fun _ => trivial, fun h => absurd hle h⟩, rfl⟩
  | succ m ih =>
    intro i fuel c hk hf hc
    obtain ⟨f, rfl⟩ := fuel_s hf
    have hle : ¬ nI no ≤ nI i := nI_ge (by omega) (by omega)
    have s' : v.1 (1 + 45) 4 = nI no := s
    have hv : vp_in (nI i) 8 := vi_n (by omega) (by omega)
    have hcl : (nI i).toNatClampNeg = i := cl_n (by omega)
    obtain ⟨e1, e2, e3, e4, e5, e6, e7⟩ := d_eq wo (i := i) (by omega)
    obtain ⟨o1, o2, o3⟩ := bo i (by omega)
    have o1' : v.1 (1 + 46) i = nI (dF w i) := o1.trans e1
    have o2' : v.1 (1 + 47) i = nI (dL w i) := o2.trans e2
    have hb := bt_1 (x := x) (k := i) (by omega) hx
    have hcc : mxS (rch (dF w) x o) (fun i => dL w i + 1) i c ≤ 100 := by
      show (if rch (dF w) x o i = true then (if c < dL w i + 1 then dL w i + 1 else c) else c) ≤ 100
      split
      · split <;> omega
      · exact hc
    have hi := ih (i + 1) f (mxS (rch (dF w) x o) (fun i => dL w i + 1) i c) (by omega) (by omega) hcc
    rw [p_X4_dayAfter_5, f_X4_dayAfter_5, s', if_neg hle, lp_s]
    simp only [f_X4_dayAfter_49, p_X4_dayAfter_49, nI_1, hcl, o1', o2']
    by_cases hbt : bt x i = true
    · have hc1 := hb.mpr hbt
      rw [if_pos hc1]
      by_cases h1 : o < dF w i
      · have h1' : nI o < nI (dF w i) := by rw [lt_n (by omega) (by omega)]; exact h1
        have hm : mxS (rch (dF w) x o) (fun i => dL w i + 1) i c = c := by
          unfold mxS
          rw [if_neg (by rw [rch_t]; omega)]
        rw [hm] at hi ⊢
        rw [if_pos h1']
        exact ⟨⟨fun h => absurd h hle, fun _ => ⟨fun _ => ⟨hv, fun _ => hi.1, fun h => absurd h1' h⟩, fun h => absurd hc1 h⟩⟩, hi.2⟩
      · have h1' : ¬ nI o < nI (dF w i) := by rw [lt_n (by omega) (by omega)]; exact h1
        have hm : mxS (rch (dF w) x o) (fun i => dL w i + 1) i c = if c < dL w i + 1 then dL w i + 1 else c := by
          unfold mxS
          rw [if_pos (by rw [rch_t]; exact ⟨hbt, by omega⟩)]
        have hmx : (if nI c < nI (dL w i + 1) then nI (dL w i + 1) else nI c) = nI (if c < dL w i + 1 then dL w i + 1 else c) := max_n (by omega) (by omega)
        rw [hm] at hi ⊢
        rw [if_neg h1', hmx]
        exact ⟨⟨fun h => absurd h hle, fun _ => ⟨fun _ => ⟨hv, fun h => absurd h h1', fun _ => ⟨hv, hi.1⟩⟩, fun h => absurd hc1 h⟩⟩, hi.2⟩
    · have hc1 : ¬ (((nI x >>> (nI i &&& 31)) &&& (1 : Int32)) = (1 : Int32)) := fun h => hbt (hb.mp h)
      have hm : mxS (rch (dF w) x o) (fun i => dL w i + 1) i c = c := by
        unfold mxS
        rw [if_neg (by rw [rch_t]; exact fun h => hbt h.1)]
      rw [hm] at hi ⊢
      rw [if_neg hc1]
      exact ⟨⟨fun h => absurd h hle, fun _ => ⟨fun h => absurd h hc1, fun _ => hi.1⟩⟩, hi.2⟩
theorem L_isCover {v : gV} {w : Nat → Int32} {no x a e : Nat} (s : v.1 46 4 = nI no) (hn : no ≤ 8) (hx : x < 256) (wo : WFo w no) (bo : BRo v 1 w no) (he : e ≤ 99) : ∀ (m i fuel o : Nat), i + m = no → m < fuel → a ≤ o → o ≤ 100 → (∀ y, a ≤ y → y < o → ∃ i, i < no ∧ bt x i = true ∧ dF w i ≤ y ∧ y ≤ dL w i) → (e < o ∨ pS (fun j => if o ≤ dL w j then 1 else 0) (bt x) no ≤ m) → p_X4_isCover_6 1 fuel (nI x) (nI e) (nI o) (nI i) v ∧ ((f_X4_isCover_6 1 fuel (nI x) (nI e) (nI o) (nI i) v = 1 ∧ cov (dF w) (dL w) no (bt x) a e) ∨ (f_X4_isCover_6 1 fuel (nI x) (nI e) (nI o) (nI i) v = 0 ∧ ¬ cov (dF w) (dL w) no (bt x) a e)) := by
  have hend : ∀ o, a ≤ o → o ≤ 100 → (∀ y, a ≤ y → y < o → ∃ i, i < no ∧ bt x i = true ∧ dF w i ≤ y ∧ y ≤ dL w i) → (e < o ∨ pS (fun j => if o ≤ dL w j then 1 else 0) (bt x) no ≤ 0) → p_X4_isCover_36 1 (nI e) (nI o) v ∧ ((f_X4_isCover_36 1 (nI e) (nI o) v = 1 ∧ cov (dF w) (dL w) no (bt x) a e) ∨ (f_X4_isCover_36 1 (nI e) (nI o) v = 0 ∧ ¬ cov (dF w) (dL w) no (bt x) a e)) := by
    intro o hao ho hA hB
    have p47 : ∀ s0 : Int32, s0 = 0 ∨ s0 = 1 → p_X4_isCover_47 1 s0 v := fun s0 h => And.intro h trivial
    refine ⟨?_, ?_⟩
    · rw [p_X4_isCover_36]
      exact ⟨fun _ => p47 0 (Or.inl rfl), fun _ => p47 1 (Or.inr rfl)⟩
    · rw [f_X4_isCover_36]
      by_cases h : o ≤ e
      · rw [if_pos (nI_le (by omega) (by omega))]
        refine Or.inr ⟨rfl, fun hcov => ?_⟩
        obtain ⟨i, i1, i2, i3, i4⟩ := hcov o hao h
        rcases hB with hB | hB
        · omega
        · have := pS_ge (P := fun j => if o ≤ dL w j then 1 else 0) i1 i2
          have : (if o ≤ dL w i then 1 else 0) ≤ pS (fun j => if o ≤ dL w j then 1 else 0) (bt x) no := this
          rw [if_pos i4] at this
          omega
      · rw [if_neg (nI_ge (by omega) (by omega))]
        exact Or.inl ⟨rfl, fun y y1 y2 => hA y y1 (by omega)⟩
  intro m
  induction m with
  | zero =>
    intro i fuel o hk hf hao ho hA hB
    obtain ⟨f, rfl⟩ := fuel_s hf
    have hle : nI no ≤ nI i := nI_le (by omega) (by omega)
    have s' : v.1 (1 + 45) 4 = nI no := s
    obtain ⟨q1, q2⟩ := hend o hao ho hA hB
    rw [p_X4_isCover_6, f_X4_isCover_6, s', if_pos hle]
    exact ⟨⟨fun _ => q1, fun h => absurd hle h⟩, q2⟩
  | succ m ih =>
    intro i fuel o hk hf hao ho hA hB
    obtain ⟨f, rfl⟩ := fuel_s hf
    have hle : ¬ nI no ≤ nI i := nI_ge (by omega) (by omega)
    have s' : v.1 (1 + 45) 4 = nI no := s
    rw [p_X4_isCover_6, f_X4_isCover_6, s', if_neg hle]
    by_cases hlt : e < o
    · have hlt' : nI e < nI o := by rw [lt_n (by omega) (by omega)]; exact hlt
      obtain ⟨q1, q2⟩ := hend o hao ho hA (Or.inl hlt)
      rw [if_pos hlt']
      exact ⟨⟨fun h => absurd h hle, fun _ => ⟨fun _ => q1, fun h => absurd hlt' h⟩⟩, q2⟩
    · have hlt' : ¬ nI e < nI o := by rw [lt_n (by omega) (by omega)]; exact hlt
      obtain ⟨d1, d2⟩ := L_dayAfter s hn hx wo bo ho no 0 5000 o (by omega) (by omega) ho
      obtain ⟨m1, m2, m3⟩ := mx_spec (rch (dF w) x o) (fun i => dL w i + 1) 0 o no
      rw [Nat.zero_add] at m2 m3
      generalize lp (mxS (rch (dF w) x o) (fun i => dL w i + 1)) no 0 o = o2 at d2 m1 m2 m3
      have d1' : p_X4_dayAfter 1 (nI x) (nI o) v := d1
      have d2' : f_X4_dayAfter 1 (nI x) (nI o) v = nI o2 := d2
      have ho2 : o2 ≤ 100 := by
        rcases m3 with rfl | ⟨j, -, j1, -, j3⟩
        · exact ho
        · have := (d_eq wo j1).2.2.2.2.1
          have j3 : o2 = dL w j + 1 := j3
          omega
      have hA2 : ∀ y, a ≤ y → y < o2 → ∃ i, i < no ∧ bt x i = true ∧ dF w i ≤ y ∧ y ≤ dL w i := by
        intro y y1 y2
        by_cases hy : y < o
        · exact hA y y1 hy
        · rcases m3 with rfl | ⟨j, -, j1, j2, j3⟩
          · omega
          · rw [rch_t] at j2
            have j3 : o2 = dL w j + 1 := j3
            exact ⟨j, j1, j2.1, by omega, by omega⟩
      by_cases hcv : ∃ i, i < no ∧ bt x i = true ∧ dF w i ≤ o ∧ o ≤ dL w i
      · obtain ⟨j, j1, j2, j3, j4⟩ := hcv
        have hj : dL w j + 1 ≤ o2 := m2 j (Nat.zero_le _) j1 (rch_t.mpr ⟨j2, j3⟩)
        have hB2 : e < o2 ∨ pS (fun j => if o2 ≤ dL w j then 1 else 0) (bt x) no ≤ m := by
          rcases hB with hB | hB
          · omega
          · have := pS_lt (P := fun j => if o2 ≤ dL w j then 1 else 0) (Q := fun j => if o ≤ dL w j then 1 else 0) (S := bt x) (n := no) (j := j) (fun i _ => by
              show (if o2 ≤ dL w i then 1 else 0) ≤ (if o ≤ dL w i then 1 else 0)
              split
              · rw [if_pos (by omega)]
                exact Nat.le_refl _
              · exact Nat.zero_le _) j1 j2 (by
              show (if o2 ≤ dL w j then 1 else 0) < (if o ≤ dL w j then 1 else 0)
              rw [if_neg (by omega), if_pos j4]
              omega)
            exact Or.inr (by omega)
        obtain ⟨q1, q2⟩ := ih (i + 1) f o2 (by omega) (by omega) (by omega) ho2 hA2 hB2
        rw [if_neg hlt', d2', nI_1]
        exact ⟨⟨fun h => absurd h hle, fun _ => ⟨fun h => absurd h hlt', fun _ => ⟨d1', q1⟩⟩⟩, q2⟩
      · -- the open day is covered by none: nothing moves any more
        have hno : ¬ cov (dF w) (dL w) no (bt x) a e := fun hcov => hcv (hcov o hao (by omega))
        have hstuck : o2 = o := by
          rcases m3 with e | ⟨j, -, j1, j2, j3⟩
          · exact e
          · rw [rch_t] at j2
            have j3 : o2 = dL w j + 1 := j3
            by_cases h : o ≤ dL w j
            · exact absurd ⟨j, j1, j2.1, j2.2, h⟩ hcv
            · omega
        subst hstuck
        -- from here on the loop ends with 0, whatever is left
        have hrest : ∀ (m' i' fuel' : Nat), i' + m' = no → m' < fuel' → p_X4_isCover_6 1 fuel' (nI x) (nI e) (nI o2) (nI i') v ∧ f_X4_isCover_6 1 fuel' (nI x) (nI e) (nI o2) (nI i') v = 0 := by
          have p47 : ∀ s0 : Int32, s0 = 0 ∨ s0 = 1 → p_X4_isCover_47 1 s0 v := fun s0 h => And.intro h trivial
          have h36 : p_X4_isCover_36 1 (nI e) (nI o2) v ∧ f_X4_isCover_36 1 (nI e) (nI o2) v = 0 := by
            rw [p_X4_isCover_36, f_X4_isCover_36, if_pos (nI_le (by omega) (by omega))]
            exact ⟨⟨fun _ => p47 0 (Or.inl rfl), fun _ => p47 1 (Or.inr rfl)⟩, rfl⟩
          intro m'
          induction m' with
          | zero =>
            intro i' fuel' hk' hf'
            obtain ⟨f', rfl⟩ := fuel_s hf'
            have hle2 : nI no ≤ nI i' := nI_le (by omega) (by omega)
            rw [p_X4_isCover_6, f_X4_isCover_6, s', if_pos hle2]
            exact ⟨⟨fun _ => h36.1, fun h => absurd hle2 h⟩, h36.2⟩
          | succ m' ih' =>
            intro i' fuel' hk' hf'
            obtain ⟨f', rfl⟩ := fuel_s hf'
            have hle2 : ¬ nI no ≤ nI i' := nI_ge (by omega) (by omega)
            obtain ⟨q1, q2⟩ := ih' (i' + 1) f' (by omega) (by omega)
            rw [p_X4_isCover_6, f_X4_isCover_6, s', if_neg hle2, if_neg hlt', d2', nI_1]
            exact ⟨⟨fun h => absurd h hle2, fun _ => ⟨fun h => absurd h hlt', fun _ => ⟨d1', q1⟩⟩⟩, q2⟩
        obtain ⟨q1, q2⟩ := hrest m (i + 1) f (by omega) (by omega)
        rw [if_neg hlt', d2', nI_1]
        exact ⟨⟨fun h => absurd h hle, fun _ => ⟨fun h => absurd h hlt', fun _ => ⟨d1', q1⟩⟩⟩, Or.inr ⟨q2, hno⟩⟩
theorem K_isCover {v : gV} {w : Nat → Int32} {no x a e : Nat} (s : v.1 46 4 = nI no) (hn : no ≤ 8) (hx : x < 256) (wo : WFo w no) (bo : BRo v 1 w no) (ha : a ≤ 99) (he : e ≤ 99) : p_X4_isCover 1 (nI x) (nI a) (nI e) v ∧ ((f_X4_isCover 1 (nI x) (nI a) (nI e) v = 1 ∧ cov (dF w) (dL w) no (bt x) a e) ∨ (f_X4_isCover 1 (nI x) (nI a) (nI e) v = 0 ∧ ¬ cov (dF w) (dL w) no (bt x) a e)) := by
  refine L_isCover s hn hx wo bo he no 0 5000 a (by omega) (by omega) (Nat.le_refl _) (by omega) (fun y y1 y2 => by omega) (Or.inr ?_)
  have := pS_le (P := fun j => if a ≤ dL w j then 1 else 0) (S := bt x) (c := 1) (n := no) fun i _ => by
    show (if a ≤ dL w i then 1 else 0) ≤ 1
    split <;> omega
  omega
theorem L_X4_price {v : gV} {x n : Nat} (s : Nat → Nat) (hx : x < 256) (h0 : v.1 46 4 = nI n) (hn : n ≤ 8) (hs : ∀ k, k < n → v.1 49 k = nI (s k)) : ∀ (m k fuel a : Nat), k + m = n → m < fuel → p_X4_priceOfSet_4 1 fuel (nI x) (nI a) (nI k) v ∧ f_X4_priceOfSet_4 1 fuel (nI x) (nI a) (nI k) v = nI (lpN s x m k a) := by
  intro m
  induction m with
  | zero =>
    intro k fuel a hk hf
    obtain ⟨f, rfl⟩ := fuel_s hf
    have hle : nI n ≤ nI k := nI_le (by omega) (by omega)
    have h0' : v.1 (1 + 45) 4 = nI n := h0
    rw [p_X4_priceOfSet_4, f_X4_priceOfSet_4, h0', if_pos hle]
    exact ⟨⟨fun _ => trivial, fun h => absurd hle h⟩, rfl⟩
  | succ m ih =>
    intro k fuel a hk hf
    obtain ⟨f, rfl⟩ := fuel_s hf
    have hle : ¬ nI n ≤ nI k := nI_ge (by omega) (by omega)
    have h0' : v.1 (1 + 45) 4 = nI n := h0
    have hs' : v.1 (1 + 48) (nI k).toNatClampNeg = nI (s k) := by
      rw [cl_n (by omega)]
      exact hs k (by omega)
    have hv : vp_in (nI k) 8 := vi_n (by omega) (by omega)
    have hb := bt_1 (x := x) (k := k) (by omega) hx
    have hi := ih (k + 1) f (a + (if bt x k = true then s k else 0)) (by omega) (by omega)
    have hst : lpN s x (m + 1) k a = lpN s x m (k + 1) (a + (if bt x k = true then s k else 0)) := rfl
    rw [p_X4_priceOfSet_4, f_X4_priceOfSet_4, h0', if_neg hle, hst]
    simp only [f_X4_priceOfSet_30, p_X4_priceOfSet_30, nI_1, hs', nI_add]
    cases hbt : bt x k with
    | true =>
      rw [hbt, if_pos rfl] at hi
      have hc := hb.mpr hbt
      rw [if_pos hc, if_pos rfl]
      exact ⟨⟨fun h => absurd h hle, fun _ => ⟨fun _ => ⟨hv, hi.1⟩, fun h => absurd hc h⟩⟩, hi.2⟩
    | false =>
      rw [hbt, if_neg Bool.false_ne_true] at hi
      have hc : ¬ (((nI x >>> (nI k &&& 31)) &&& (1 : Int32)) = (1 : Int32)) := fun h => by rw [hb.mp h] at hbt; cases hbt
      rw [if_neg hc, if_neg Bool.false_ne_true]
      exact ⟨⟨fun h => absurd h hle, fun _ => ⟨fun h => absurd h hc, fun _ => hi.1⟩⟩, hi.2⟩
theorem K_X4_price {v : gV} {w : Nat → Int32} {x no : Nat} (hx : x < 256) (s : v.1 46 4 = nI no) (hn : no ≤ 8) (wo : WFo w no) (bo : BRo v 1 w no) : p_X4_priceOfSet 1 (nI x) v ∧ f_X4_priceOfSet 1 (nI x) v = nI (lsN (dP w) x no) := by
  have h := L_X4_price (dP w) hx s hn (fun k hk => (bo k hk).2.2.trans (d_eq wo hk).2.2.1) no 0 5000 0 (by omega) (by omega)
  rw [lpN_lsN] at h
  exact h
theorem L_bySetsC {v : gV} {w : Nat → Int32} {no a e : Nat} (s : v.1 46 4 = nI no) (hn : no ≤ 8) (wo : WFo w no) (bo : BRo v 1 w no) (ha : a ≤ 99) (he : e ≤ 99) : ∀ (m x fuel b : Nat), x + m = 2 ^ no → m < fuel → b ≤ 1000 → p_X4_cheapestBySets_7 1 fuel (nI a) (nI e) (nI b) (nI x) v ∧ f_X4_cheapestBySets_7 1 fuel (nI a) (nI e) (nI b) (nI x) v = nI (lp (mnS (fun x => !decide (f_X4_isCover 1 (nI x) (nI a) (nI e) v = 0)) (fun x => lsN (dP w) x no)) m x b) := by
  have hpow := pow8 no (by omega)
  intro m
  induction m with
  | zero =>
    intro x fuel b hk hf hb
    obtain ⟨f, rfl⟩ := fuel_s hf
    have s' : v.1 (1 + 45) 4 = nI no := s
    have hle : nI (2 ^ no) ≤ nI x := nI_le (by omega) (by omega)
    rw [p_X4_cheapestBySets_7, f_X4_cheapestBySets_7, s', sh_n no (by omega), if_pos hle]
    exact ⟨⟨fun _ => trivial, fun h => absurd hle h⟩, rfl⟩
  | succ m ih =>
    intro x fuel b hk hf hb
    obtain ⟨f, rfl⟩ := fuel_s hf
    have s' : v.1 (1 + 45) 4 = nI no := s
    have hle : ¬ nI (2 ^ no) ≤ nI x := nI_ge (by omega) (by omega)
    obtain ⟨c1, -⟩ := K_isCover (x := x) (a := a) (e := e) s hn (by omega) wo bo ha he
    obtain ⟨p1, p2⟩ := K_X4_price (x := x) (by omega) s hn wo bo
    have hpl : lsN (dP w) x no ≤ 400 := by
      rw [lsN_pS]
      have := pS_le (P := dP w) (S := bt x) (c := 50) (n := no) fun i hi => (d_eq wo hi).2.2.2.2.2.2
      omega
    have hbb : mnS (fun x => !decide (f_X4_isCover 1 (nI x) (nI a) (nI e) v = 0)) (fun x => lsN (dP w) x no) x b ≤ 1000 := by
      unfold mnS
      split
      · split <;> omega
      · exact hb
    have hi := ih (x + 1) f (mnS (fun x => !decide (f_X4_isCover 1 (nI x) (nI a) (nI e) v = 0)) (fun x => lsN (dP w) x no) x b) (by omega) (by omega) hbb
    rw [p_X4_cheapestBySets_7, f_X4_cheapestBySets_7, s', sh_n no (by omega), if_neg hle, lp_s]
    simp only [f_X4_cheapestBySets_40, p_X4_cheapestBySets_40, nI_1]
    by_cases hc : f_X4_isCover 1 (nI x) (nI a) (nI e) v = 0
    · have hm : mnS (fun x => !decide (f_X4_isCover 1 (nI x) (nI a) (nI e) v = 0)) (fun x => lsN (dP w) x no) x b = b := by
        show (if (!decide (f_X4_isCover 1 (nI x) (nI a) (nI e) v = 0)) = true then (if lsN (dP w) x no < b then lsN (dP w) x no else b) else b) = b
        rw [decide_eq_true hc]
        rfl
      rw [hm] at hi ⊢
      rw [if_pos hc]
      exact ⟨⟨fun h => absurd h hle, fun _ => ⟨c1, fun _ => hi.1, fun h => absurd hc h⟩⟩, hi.2⟩
    · have hm : mnS (fun x => !decide (f_X4_isCover 1 (nI x) (nI a) (nI e) v = 0)) (fun x => lsN (dP w) x no) x b = if lsN (dP w) x no < b then lsN (dP w) x no else b := by
        show (if (!decide (f_X4_isCover 1 (nI x) (nI a) (nI e) v = 0)) = true then (if lsN (dP w) x no < b then lsN (dP w) x no else b) else b) = _
        rw [decide_eq_false hc]
        rfl
      rw [hm] at hi ⊢
      rw [if_neg hc, p2, min_n (by omega) (by omega)]
      exact ⟨⟨fun h => absurd h hle, fun _ => ⟨c1, fun h => absurd h hc, fun _ => ⟨p1, hi.1⟩⟩⟩, hi.2⟩
/-- the least over the rows of bits is the least over all sets -/
theorem best_bits {F L P : Nat → Nat} {n a d r : Nat} (c : Nat → Bool) (hn : n ≤ 8) (hc : ∀ x, x < 2 ^ n → (c x = true ↔ cov F L n (bt x) a d)) (h1 : r ≤ 1000) (h2 : ∀ x, x < 2 ^ n → c x = true → r ≤ lsN P x n) (h3 : r = 1000 ∨ ∃ x, x < 2 ^ n ∧ c x = true ∧ r = lsN P x n) : Best F L P n a d r := by
  refine ⟨h1, fun S hS => ?_, h3.imp id fun ⟨x, x1, x2, x3⟩ => ⟨bt x, (hc x x1).mp x2, by rw [x3, lsN_pS]; exact Nat.le_refl _⟩⟩
  obtain ⟨x, hx, hb⟩ := bits_of S n hn
  have hcx : cov F L n (bt x) a d := fun y y1 y2 => by
    obtain ⟨i, i1, i2, i3⟩ := hS y y1 y2
    exact ⟨i, i1, by rw [hb i i1]; exact i2, i3⟩
  have := h2 x hx ((hc x hx).mpr hcx)
  rw [lsN_pS, pS_congr hb] at this
  exact this
theorem K_bySetsC {v : gV} {w : Nat → Int32} {no a e : Nat} (s : v.1 46 4 = nI no) (hn : no ≤ 8) (wo : WFo w no) (bo : BRo v 1 w no) (ha : a ≤ 99) (he : e ≤ 99) : p_X4_cheapestBySets 1 (nI a) (nI e) v ∧ ∃ q, BestW w no a e q ∧ f_X4_cheapestBySets 1 (nI a) (nI e) v = nI q := by
  have hpow := pow8 no (by omega)
  obtain ⟨k1, k2⟩ := L_bySetsC s hn wo bo ha he (2 ^ no) 0 5000 1000 (by omega) (by omega) (by omega)
  obtain ⟨m1, m2, m3⟩ := mn_spec (fun x => !decide (f_X4_isCover 1 (nI x) (nI a) (nI e) v = 0)) (fun x => lsN (dP w) x no) 0 1000 (2 ^ no)
  rw [Nat.zero_add] at m2 m3
  refine ⟨k1, _, best_bits (fun x => !decide (f_X4_isCover 1 (nI x) (nI a) (nI e) v = 0)) hn (fun x hx => ?_) m1 (fun x hx hc => m2 x (Nat.zero_le _) hx hc) (m3.imp id fun ⟨x, _, x1, x2, x3⟩ => ⟨x, x1, x2, x3⟩), k2⟩
  obtain ⟨-, hcv⟩ := K_isCover (x := x) (a := a) (e := e) s hn (by omega) wo bo ha he
  rcases hcv with ⟨h1, h2⟩ | ⟨h1, h2⟩
  · have : ¬ f_X4_isCover 1 (nI x) (nI a) (nI e) v = 0 := by rw [h1]; decide +kernel
    rw [decide_eq_false this]
    exact ⟨fun _ => h2, fun _ => rfl⟩
  · rw [decide_eq_true h1]
    exact ⟨fun h => (by cases h), fun h => absurd h h2⟩
/-! the reference -/
theorem L_isCovered {u : gV} {w : Nat → Int32} {no x y : Nat} (hw : u.1 560 = w) (h3 : w 3 = nI no) (hn : no ≤ 8) (hx : x < 256) (wo : WFo w no) (hy : y ≤ 99) : ∀ (m k fuel : Nat), k + m = no → m < fuel → p_X12_isCovered_2 fuel (nI x) (nI y) (nI k) u ∧ ((f_X12_isCovered_2 fuel (nI x) (nI y) (nI k) u = 1 ∧ ∃ i, k ≤ i ∧ i < no ∧ bt x i = true ∧ dF w i ≤ y ∧ y ≤ dL w i) ∨ (f_X12_isCovered_2 fuel (nI x) (nI y) (nI k) u = 0 ∧ ∀ i, k ≤ i → i < no → ¬ (bt x i = true ∧ dF w i ≤ y ∧ y ≤ dL w i))) := by
  intro m
  induction m with
  | zero =>
    intro k fuel hk hf
    obtain ⟨f, rfl⟩ := fuel_s hf
    have hle : nI no ≤ nI k := nI_le (by omega) (by omega)
    have h3' : u.1 560 (3 : Int32).toNatClampNeg = nI no := by rw [hw]; exact h3
    rw [p_X12_isCovered_2, f_X12_isCovered_2, h3', if_pos hle]
    exact ⟨⟨fun _ => trivial, fun h => absurd hle h⟩, Or.inr ⟨rfl, fun i a b => by omega⟩⟩
  | succ m ih =>
    intro k fuel hk hf
    obtain ⟨f, rfl⟩ := fuel_s hf
    have hle : ¬ nI no ≤ nI k := nI_ge (by omega) (by omega)
    have h3' : u.1 560 (3 : Int32).toNatClampNeg = nI no := by rw [hw]; exact h3
    obtain ⟨e1, e2, e3, e4, e5, e6, e7⟩ := d_eq wo (i := k) (by omega)
    have p0 : p_X12_o (nI k) (0 : Int32) u := P_X12_o u (k := k) (o := 0) (by omega)
    have p1 : p_X12_o (nI k) (1 : Int32) u := P_X12_o u (k := k) (o := 1) (by omega)
    have f0 : f_X12_o (nI k) (0 : Int32) u = nI (dF w k) := (F_X12_o u (k := k) (o := 0) (by omega)).trans (by rw [hw]; exact e1)
    have f1 : f_X12_o (nI k) (1 : Int32) u = nI (dL w k) := (F_X12_o u (k := k) (o := 1) (by omega)).trans (by rw [hw]; exact e2)
    have hb := bt_1 (x := x) (k := k) (by omega) hx
    obtain ⟨q1, q2⟩ := ih (k + 1) f (by omega) (by omega)
    have q2' : ¬ (bt x k = true ∧ dF w k ≤ y ∧ y ≤ dL w k) → ((f_X12_isCovered_2 f (nI x) (nI y) (nI (k + 1)) u = 1 ∧ ∃ i, k ≤ i ∧ i < no ∧ bt x i = true ∧ dF w i ≤ y ∧ y ≤ dL w i) ∨ (f_X12_isCovered_2 f (nI x) (nI y) (nI (k + 1)) u = 0 ∧ ∀ i, k ≤ i → i < no → ¬ (bt x i = true ∧ dF w i ≤ y ∧ y ≤ dL w i))) := fun hk0 => q2.imp (fun ⟨a, i, b, c⟩ => ⟨a, i, by omega, c⟩) fun ⟨a, b⟩ => ⟨a, fun i c d => by
      by_cases e : i = k
      · subst e
        exact hk0
      · exact b i (by omega) d⟩
    rw [p_X12_isCovered_2, f_X12_isCovered_2, h3', if_neg hle]
    simp only [f_X12_isCovered_42, p_X12_isCovered_42, nI_1, f0, f1, F_X12_in]
    by_cases hbt : bt x k = true
    · have hc := hb.mpr hbt
      rw [if_pos hc]
      cases hin : inb (nI y) (nI (dF w k)) (nI (dL w k)) with
      | true =>
        have hin2 := inb_t.mp hin
        rw [tI (by omega), tI (by omega), tI (by omega)] at hin2
        rw [if_pos rfl, if_neg (show ¬ nI 1 = 0 from n10)]
        exact ⟨⟨fun h => absurd h hle, fun _ => ⟨fun _ => ⟨p0, p1, P_X12_in _ _ _ _, fun h => absurd h n10, fun _ => trivial⟩, fun h => absurd hc h⟩⟩, Or.inl ⟨rfl, k, Nat.le_refl _, by omega, hbt, by omega, by omega⟩⟩
      | false =>
        have hin2 := inb_f.mp hin
        rw [tI (by omega), tI (by omega), tI (by omega)] at hin2
        rw [if_neg Bool.false_ne_true, if_pos (show nI 0 = 0 from rfl)]
        exact ⟨⟨fun h => absurd h hle, fun _ => ⟨fun _ => ⟨p0, p1, P_X12_in _ _ _ _, fun _ => q1, fun h => absurd rfl h⟩, fun h => absurd hc h⟩⟩, q2' fun h => hin2 ⟨by omega, by omega⟩⟩
    · have hc : ¬ (((nI x >>> (nI k &&& 31)) &&& (1 : Int32)) = (1 : Int32)) := fun h => hbt (hb.mp h)
      rw [if_neg hc]
      exact ⟨⟨fun h => absurd h hle, fun _ => ⟨fun h => absurd h hc, fun _ => q1⟩⟩, q2' fun h => hbt h.1⟩
theorem L_areCovered {u : gV} {w : Nat → Int32} {no x e : Nat} (hw : u.1 560 = w) (h3 : w 3 = nI no) (hn : no ≤ 8) (hx : x < 256) (wo : WFo w no) (he : e ≤ 99) : ∀ (m y fuel : Nat), y + m = e + 1 → m < fuel → p_X12_areCovered_3 fuel (nI x) (nI e) (nI y) u ∧ ((f_X12_areCovered_3 fuel (nI x) (nI e) (nI y) u = 1 ∧ cov (dF w) (dL w) no (bt x) y e) ∨ (f_X12_areCovered_3 fuel (nI x) (nI e) (nI y) u = 0 ∧ ¬ cov (dF w) (dL w) no (bt x) y e)) := by
  intro m
  induction m with
  | zero =>
    intro y fuel hk hf
    obtain ⟨f, rfl⟩ := fuel_s hf
    have hlt : nI e < nI y := by rw [lt_n (by omega) (by omega)]; omega
    rw [p_X12_areCovered_3, f_X12_areCovered_3, if_pos hlt]
    exact ⟨⟨fun _ => trivial, fun h => absurd hlt h⟩, Or.inl ⟨rfl, fun z a b => by omega⟩⟩
  | succ m ih =>
    intro y fuel hk hf
    obtain ⟨f, rfl⟩ := fuel_s hf
    have hlt : ¬ nI e < nI y := by rw [lt_n (by omega) (by omega)]; omega
    obtain ⟨c1, c2⟩ := L_isCovered (x := x) (y := y) hw h3 hn hx wo (by omega) no 0 5000 (by omega) (by omega)
    obtain ⟨q1, q2⟩ := ih (y + 1) f (by omega) (by omega)
    have c1' : p_X12_isCovered (nI x) (nI y) u := c1
    have ef : f_X12_isCovered (nI x) (nI y) u = f_X12_isCovered_2 5000 (nI x) (nI y) (nI 0) u := rfl
    rw [p_X12_areCovered_3, f_X12_areCovered_3, if_neg hlt, ef, nI_1]
    rcases c2 with ⟨a1, i, -, a2, a3⟩ | ⟨a1, a2⟩
    · have hne : ¬ f_X12_isCovered_2 5000 (nI x) (nI y) (nI 0) u = 0 := by rw [a1]; decide +kernel
      rw [if_neg hne]
      refine ⟨⟨fun h => absurd h hlt, fun _ => ⟨c1', fun _ => trivial, fun _ => q1⟩⟩, q2.imp (fun ⟨b1, b2⟩ => ⟨b1, fun z z1 z2 => ?_⟩) fun ⟨b1, b2⟩ => ⟨b1, fun hcov => b2 fun z z1 z2 => hcov z (by omega) z2⟩⟩
      by_cases ez : z = y
      · subst ez
        exact ⟨i, a2, a3⟩
      · exact b2 z (by omega) z2
    · rw [if_pos a1]
      refine ⟨⟨fun h => absurd h hlt, fun _ => ⟨c1', fun _ => trivial, fun h => absurd a1 h⟩⟩, Or.inr ⟨rfl, fun hcov => ?_⟩⟩
      obtain ⟨i, i1, i2⟩ := hcov y (Nat.le_refl _) (by omega)
      exact a2 i (Nat.zero_le _) i1 i2
theorem L_X12_price (u : gV) {x n : Nat} (s : Nat → Nat) (hx : x < 256) (h0 : u.1 560 3 = nI n) (hn : n ≤ 8) (hs : ∀ k, k < n → u.1 560 (232 + 4 * k + 2) = nI (s k)) : ∀ (m k fuel a : Nat), k + m = n → m < fuel → p_X12_priceOf_4 fuel (nI x) (nI a) (nI k) u ∧ f_X12_priceOf_4 fuel (nI x) (nI a) (nI k) u = nI (lpN s x m k a) := by
  intro m
  induction m with
  | zero =>
    intro k fuel a hk hf
    obtain ⟨f, rfl⟩ := fuel_s hf
    have hle : nI n ≤ nI k := nI_le (by omega) (by omega)
    have h0' : u.1 560 (3 : Int32).toNatClampNeg = nI n := h0
    rw [p_X12_priceOf_4, f_X12_priceOf_4, h0', if_pos hle]
    exact ⟨⟨fun _ => trivial, fun h => absurd hle h⟩, rfl⟩
  | succ m ih =>
    intro k fuel a hk hf
    obtain ⟨f, rfl⟩ := fuel_s hf
    have hle : ¬ nI n ≤ nI k := nI_ge (by omega) (by omega)
    have h0' : u.1 560 (3 : Int32).toNatClampNeg = nI n := h0
    have hp : p_X12_o (nI k) (2 : Int32) u := P_X12_o u (k := k) (o := 2) (by omega)
    have hf1 : f_X12_o (nI k) (2 : Int32) u = nI (s k) := (F_X12_o u (k := k) (o := 2) (by omega)).trans (hs k (by omega))
    have hv : nI a + ((nI x >>> (nI k &&& 31)) &&& (1 : Int32)) * nI (s k) = nI (a + (if bt x k = true then s k else 0)) := by
      rw [bt_i k (by omega) x hx]
      cases bt x k with
      | true =>
        rw [if_pos rfl, if_pos rfl, nI_mul, Nat.one_mul, nI_add]
      | false =>
        rw [if_neg Bool.false_ne_true, if_neg Bool.false_ne_true, nI_mul, Nat.zero_mul, nI_add]
    have hi := ih (k + 1) f (a + (if bt x k = true then s k else 0)) (by omega) (by omega)
    rw [p_X12_priceOf_4, f_X12_priceOf_4, h0', if_neg hle, hf1, hv, nI_1]
    exact ⟨⟨fun h => absurd h hle, fun _ => ⟨hp, hi.1⟩⟩, hi.2⟩
theorem K_X12_price {u : gV} {w : Nat → Int32} {x no : Nat} (hw : u.1 560 = w) (hx : x < 256) (h3 : w 3 = nI no) (hn : no ≤ 8) (wo : WFo w no) : p_X12_priceOf (nI x) u ∧ f_X12_priceOf (nI x) u = nI (lsN (dP w) x no) := by
  have h := L_X12_price u (dP w) hx (by rw [hw]; exact h3) hn (fun k hk => by rw [hw]; exact (d_eq wo hk).2.2.1) no 0 5000 0 (by omega) (by omega)
  rw [lpN_lsN] at h
  exact h
def acv (u : gV) (a e x : Nat) : Bool := !decide (f_X12_areCovered (nI x) (nI a) (nI e) u = 0)
def cvE (r : Nat) (u : gV) : Int32 × gV := if r = 1000000 then (nI 0, thr u (nI 2)) else (nI r, u)
theorem L_cover {u : gV} {w : Nat → Int32} {no a e : Nat} (hw : u.1 560 = w) (h3 : w 3 = nI no) (hn : no ≤ 8) (wo : WFo w no) (hae : a ≤ e) (he : e ≤ 99) : ∀ (m x fuel b : Nat), x + m = 2 ^ no → m < fuel → b ≤ 1000000 → p_X12_cover_21 fuel (nI a) (nI e) (nI b) (nI x) u ∧ f_X12_cover_21 fuel (nI a) (nI e) (nI b) (nI x) u = cvE (lp (mnS (acv u a e) (fun x => lsN (dP w) x no)) m x b) u := by
  have hpow := pow8 no (by omega)
  intro m
  induction m with
  | zero =>
    intro x fuel b hk hf hb
    obtain ⟨f, rfl⟩ := fuel_s hf
    have h3' : u.1 560 (3 : Int32).toNatClampNeg = nI no := by rw [hw]; exact h3
    have hle : nI (2 ^ no) ≤ nI x := nI_le (by omega) (by omega)
    rw [p_X12_cover_21, f_X12_cover_21, h3', sh_n no (by omega), if_pos hle]
    refine ⟨⟨fun _ => ⟨fun _ => ⟨P_X12_fail _ _, trivial⟩, fun _ => trivial⟩, fun h => absurd hle h⟩, ?_⟩
    show (if nI b = (1000000 : Int32) then f_X12_cover_80 ((f_X12_fail (2 : Int32) u).1) (f_X12_fail (2 : Int32) u).2 else f_X12_cover_84 (nI b) u) = cvE b u
    unfold cvE
    by_cases h : b = 1000000
    · subst h
      rw [if_pos (show nI 1000000 = (1000000 : Int32) from rfl), if_pos rfl]
      rfl
    · have : ¬ nI b = (1000000 : Int32) := by
        show ¬ nI b = nI 1000000
        rw [eq_n (by omega) (by omega)]
        exact h
      rw [if_neg this, if_neg h]
      rfl
  | succ m ih =>
    intro x fuel b hk hf hb
    obtain ⟨f, rfl⟩ := fuel_s hf
    have h3' : u.1 560 (3 : Int32).toNatClampNeg = nI no := by rw [hw]; exact h3
    have hle : ¬ nI (2 ^ no) ≤ nI x := nI_ge (by omega) (by omega)
    obtain ⟨c1, -⟩ := L_areCovered (x := x) hw h3 hn (by omega) wo he (e + 1 - a) a 5000 (by omega) (by omega)
    have c1' : p_X12_areCovered (nI x) (nI a) (nI e) u := c1
    obtain ⟨p1, p2⟩ := K_X12_price (x := x) hw (by omega) h3 hn wo
    have hpl : lsN (dP w) x no ≤ 400 := by
      rw [lsN_pS]
      have := pS_le (P := dP w) (S := bt x) (c := 50) (n := no) fun i hi => (d_eq wo hi).2.2.2.2.2.2
      omega
    have hbb : mnS (acv u a e) (fun x => lsN (dP w) x no) x b ≤ 1000000 := by
      unfold mnS
      split
      · split <;> omega
      · exact hb
    have hi := ih (x + 1) f (mnS (acv u a e) (fun x => lsN (dP w) x no) x b) (by omega) (by omega) hbb
    rw [p_X12_cover_21, f_X12_cover_21, h3', sh_n no (by omega), if_neg hle, lp_s, p2]
    simp only [f_X12_cover_62, p_X12_cover_62, nI_1]
    by_cases hbp : nI b ≤ nI (lsN (dP w) x no)
    · have hbp2 := hbp
      rw [le_n (by omega) (by omega)] at hbp2
      have hm : mnS (acv u a e) (fun x => lsN (dP w) x no) x b = b := by
        show (if acv u a e x = true then (if lsN (dP w) x no < b then lsN (dP w) x no else b) else b) = b
        split
        · rw [if_neg (by omega)]
        · rfl
      rw [hm] at hi ⊢
      rw [if_pos hbp]
      exact ⟨⟨fun h => absurd h hle, fun _ => ⟨p1, fun _ => hi.1, fun h => absurd hbp h⟩⟩, hi.2⟩
    · have hbp2 := hbp
      rw [le_n (by omega) (by omega)] at hbp2
      rw [if_neg hbp]
      by_cases hc : f_X12_areCovered (nI x) (nI a) (nI e) u = 0
      · have hm : mnS (acv u a e) (fun x => lsN (dP w) x no) x b = b := by
          unfold mnS acv
          rw [if_neg (by rw [decide_eq_true hc]; exact Bool.false_ne_true)]
        rw [hm] at hi ⊢
        rw [if_pos hc]
        exact ⟨⟨fun h => absurd h hle, fun _ => ⟨p1, fun h => absurd h hbp, fun _ => ⟨c1', fun _ => hi.1, fun h => absurd hc h⟩⟩⟩, hi.2⟩
      · have hm : mnS (acv u a e) (fun x => lsN (dP w) x no) x b = lsN (dP w) x no := by
          show (if (!decide (f_X12_areCovered (nI x) (nI a) (nI e) u = 0)) = true then (if lsN (dP w) x no < b then lsN (dP w) x no else b) else b) = _
          rw [decide_eq_false hc]
          exact (if_pos rfl).trans (if_pos (by omega))
        rw [hm] at hi ⊢
        rw [if_neg hc]
        exact ⟨⟨fun h => absurd h hle, fun _ => ⟨p1, fun h => absurd h hbp, fun _ => ⟨c1', fun h => absurd h hc, fun _ => ⟨p1, hi.1⟩⟩⟩⟩, hi.2⟩
theorem bt_0 (i : Nat) : bt 0 i = false := by
  unfold bt
  rw [Nat.zero_div]
  rfl
/-- the reference's cover: the cheapest, or there is none -/
theorem K_cover {u : gV} {w : Nat → Int32} {no a e : Nat} (hw : u.1 560 = w) (h3 : w 3 = nI no) (hn : no ≤ 8) (wo : WFo w no) (hae : a ≤ e) (he : e ≤ 99) : p_X12_cover (nI a) (nI e) u ∧ ((BestW w no a e 1000 ∧ f_X12_cover (nI a) (nI e) u = (nI 0, thr u (nI 2))) ∨ ∃ q, q < 1000 ∧ BestW w no a e q ∧ f_X12_cover (nI a) (nI e) u = (nI q, thr u (nI 0))) := by
  have hpow := pow8 no (by omega)
  have hpos : 1 ≤ 2 ^ no := Nat.one_le_two_pow
  have hw' : (thr u (nI 0)).1 560 = w := by rw [thr_560]; exact hw
  obtain ⟨k1, k2⟩ := L_cover hw' h3 hn wo hae he (2 ^ no - 1) 1 5000 1000000 (by omega) (by omega) (by omega)
  obtain ⟨m1, m2, m3⟩ := mn_spec (acv (thr u (nI 0)) a e) (fun x => lsN (dP w) x no) 1 1000000 (2 ^ no - 1)
  rw [show 1 + (2 ^ no - 1) = 2 ^ no by omega] at m2 m3
  have hcx : ∀ x, x < 2 ^ no → (acv (thr u (nI 0)) a e x = true ↔ cov (dF w) (dL w) no (bt x) a e) := fun x hx => by
    obtain ⟨-, hcv⟩ := L_areCovered (x := x) hw' h3 hn (by omega) wo he (e + 1 - a) a 5000 (by omega) (by omega)
    have ef : f_X12_areCovered (nI x) (nI a) (nI e) (thr u (nI 0)) = f_X12_areCovered_3 5000 (nI x) (nI e) (nI a) (thr u (nI 0)) := rfl
    unfold acv
    rw [ef]
    rcases hcv with ⟨h1, h2⟩ | ⟨h1, h2⟩
    · have : ¬ f_X12_areCovered_3 5000 (nI x) (nI e) (nI a) (thr u (nI 0)) = 0 := by rw [h1]; decide +kernel
      rw [decide_eq_false this]
      exact ⟨fun _ => h2, fun _ => rfl⟩
    · rw [decide_eq_true h1]
      exact ⟨fun h => (by cases h), fun h => absurd h h2⟩
  have h0 : acv (thr u (nI 0)) a e 0 = false := by
    rw [Bool.eq_false_iff]
    intro h
    rw [hcx 0 (by omega)] at h
    obtain ⟨i, -, h1, -⟩ := h a (Nat.le_refl _) hae
    rw [bt_0] at h1
    cases h1
  generalize lp (mnS (acv (thr u (nI 0)) a e) (fun x => lsN (dP w) x no)) (2 ^ no - 1) 1 1000000 = r at k2 m1 m2 m3
  have hall : ∀ x, x < 2 ^ no → acv (thr u (nI 0)) a e x = true → r ≤ lsN (dP w) x no := fun x hx hc => by
    by_cases e0 : x = 0
    · subst e0
      rw [h0] at hc
      cases hc
    · exact m2 x (by omega) hx hc
  have hpl : ∀ x, lsN (dP w) x no ≤ 400 := fun x => by
    rw [lsN_pS]
    have := pS_le (P := dP w) (S := bt x) (c := 50) (n := no) fun i hi => (d_eq wo hi).2.2.2.2.2.2
    omega
  have hD : f_X12_areDays (nI a) (nI e) u = nI 1 := by
    rw [F_X12_areDays, if_pos (by rw [days_t, tI (by omega), tI (by omega)]; omega)]
  have hm : p_X12_cover (nI a) (nI e) u ∧ f_X12_cover (nI a) (nI e) u = cvE r (thr u (nI 0)) := by
    have e1 : (1000000 : Int32) = nI 1000000 := rfl
    simp only [f_X12_cover_84, p_X12_cover_84, f_X12_cover_80, p_X12_cover_80, f_X12_cover_62, p_X12_cover_62, f_X12_cover_9, p_X12_cover_9, f_X12_cover_0, p_X12_cover_0, f_X12_cover, p_X12_cover, hD, P_X12_areDays, F_checked, P_checked, n10, if_false, li_0, li_1, le00, if_true, e1, true_implies, not_true_eq_false, false_implies, true_and, and_true]
    exact ⟨k1, k2⟩
  refine ⟨hm.1, ?_⟩
  rw [hm.2]
  rcases m3 with h | ⟨x, x1, x2, x3, x4⟩
  · refine Or.inl ⟨best_bits (acv (thr u (nI 0)) a e) hn hcx (Nat.le_refl _) (fun x hx hc => ?_) (Or.inl rfl), ?_⟩
    · have a1 := hall x hx hc
      have a2 := hpl x
      omega
    · unfold cvE
      rw [if_pos h, thr_thr]
  · have a2 := hpl x
    have x4 : r = lsN (dP w) x no := x4
    refine Or.inr ⟨r, by omega, best_bits (acv (thr u (nI 0)) a e) hn hcx (by omega) hall (Or.inr ⟨x, x2, x3, x4⟩), ?_⟩
    unfold cvE
    rw [if_neg (by omega)]
theorem K_cover_bad {x y : Int32} (u : gV) (h : days x y = false) : p_X12_cover x y u ∧ f_X12_cover x y u = (nI 0, thr u (nI 1)) := by
  have hD : f_X12_areDays x y u = nI 0 := by rw [F_X12_areDays, h]; rfl
  simp only [f_X12_cover_84, p_X12_cover_84, f_X12_cover_80, p_X12_cover_80, f_X12_cover_62, p_X12_cover_62, f_X12_cover_9, p_X12_cover_9, f_X12_cover_0, p_X12_cover_0, f_X12_cover, p_X12_cover, hD, P_X12_areDays, F_checked, P_checked, if_true, li_0, le10, if_false, not_false_eq_true, false_implies, implies_true, and_self]
def eCv (y : Int32) : String := if y = nI 1 then "java/lang/IllegalArgumentException" else "java/util/NoSuchElementException"
theorem F_coverPrice (q : Nat) (hq : q ≤ 1000) (v : gV) : f_X11_coverPrice (nI q) v = if q < 1000 then Sum.inl (nI q) else Sum.inr "java/util/NoSuchElementException" := by
  show (if nI q < nI 1000 then Sum.inl (nI q) else Sum.inr "java/util/NoSuchElementException") = _
  by_cases h : q < 1000
  · rw [if_pos (by rw [lt_n (by omega) (by omega)]; exact h), if_pos h]
  · rw [if_neg (by rw [lt_n (by omega) (by omega)]; exact h), if_neg h]
theorem P_coverPrice (x : Int32) (v : gV) : p_X11_coverPrice x v := And.intro (fun _ => trivial) fun _ => trivial
theorem days_split {x y : Int32} (h : days x y = true) : ∃ a e, x = nI a ∧ y = nI e ∧ a ≤ e ∧ e ≤ 99 := by
  rw [days_t] at h
  obtain ⟨e, e1, e2⟩ := nI_ofI (x := y) (m := 100) (by omega) (by omega)
  obtain ⟨a, a1, a2⟩ := nI_ofI (x := x) (m := 100) (by omega) (by omega)
  subst e2
  subst a2
  rw [tI (by omega), tI (by omega)] at h
  exact ⟨a, e, rfl, rfl, by omega, by omega⟩
/-- the class' two tests of the days -/
theorem days_tests (x y : Int32) (v : gV) : (days x y = true → f_X11_checkedNumber y (nI 0) (nI 99) v = Sum.inl y ∧ f_X11_checkedNumber x (nI 0) y v = Sum.inl x) ∧ (days x y = false → f_X11_checkedNumber y (nI 0) (nI 99) v = Sum.inr "java/lang/IllegalArgumentException" ∨ (f_X11_checkedNumber y (nI 0) (nI 99) v = Sum.inl y ∧ f_X11_checkedNumber x (nI 0) y v = Sum.inr "java/lang/IllegalArgumentException")) := by
  have hd := @days_t x y
  have i1 := @inb_t y (nI 0) (nI 99)
  have i2 := @inb_t x (nI 0) y
  rw [tI (by omega), tI (by omega)] at i1
  rw [tI (by omega)] at i2
  rw [F_X11_checkedNumber, F_X11_checkedNumber]
  constructor
  · intro h
    have := hd.mp h
    rw [if_pos (i1.mpr (by omega)), if_pos (i2.mpr (by omega))]
    exact ⟨rfl, rfl⟩
  · intro h
    have hn : ¬ (0 ≤ x.toInt ∧ x.toInt ≤ y.toInt ∧ y.toInt ≤ 99) := fun a => by
      rw [hd.mpr a] at h
      cases h
    by_cases hy : inb y (nI 0) (nI 99) = true
    · have hx : ¬ inb x (nI 0) y = true := fun a => by
        have a1 := i1.mp hy
        have a2 := i2.mp a
        exact hn ⟨by omega, by omega, by omega⟩
      rw [if_pos hy, if_neg hx]
      exact Or.inr ⟨rfl, rfl⟩
    · rw [if_neg hy]
      exact Or.inl rfl
theorem R_cheapestCover (x y : Int32) {B : Nat} : Rd (f_X11_cheapestCover x y) (p_X11_cheapestCover x y) (f_X12_cheapestCover x y) (p_X12_cheapestCover x y) eCv oy2 (any Int32) B := by
  intro v np nc nt no h
  have hw := h.1
  have n8 := hw.2.2.2.2.2.2.2
  have wo := h.2.2.2.2.2.2.1
  have bo := h.2.2.2.2.2.2.2.2.2.2.2.2.1
  have s : v.1 46 4 = nI no := h.2.2.2.2.2.2.2.1.2.2.2.2.2.1
  have hP1 := P_X11_checkedNumber y (nI 0) (nI 99) v
  have hP2 := P_X11_checkedNumber x (nI 0) y v
  obtain ⟨t1, t2⟩ := days_tests x y v
  have hmF : ∀ u : gV, f_X12_cheapestCover x y u = f_X12_cover x y u := fun u => rfl
  have n20 : ¬ nI 2 = nI 0 := by decide +kernel
  cases hd : days x y with
  | false =>
    have hf : f_X11_cheapestCover x y v = (Sum.inr "java/lang/IllegalArgumentException", v) := by
      rcases t2 hd with q | ⟨q, q'⟩
      · simp only [f_X11_cheapestCover_28, f_X11_cheapestCover_25, f_X11_cheapestCover_21, f_X11_cheapestCover_7, f_X11_cheapestCover_0, f_X11_cheapestCover, li_0, li_99, q, el_r]
      · simp only [f_X11_cheapestCover_28, f_X11_cheapestCover_25, f_X11_cheapestCover_21, f_X11_cheapestCover_7, f_X11_cheapestCover_0, f_X11_cheapestCover, li_0, li_99, q, q', el_l, el_r]
    rw [hf]
    refine ⟨?_, Sc.refl v, nI 1, fun _ => ⟨Or.inl rfl, rfl, fun u hu => ?_⟩, fun h => absurd h n10⟩
    · rcases t2 hd with q | ⟨q, q'⟩
      · simp only [p_X11_cheapestCover_28, p_X11_cheapestCover_25, p_X11_cheapestCover_21, p_X11_cheapestCover_7, p_X11_cheapestCover_0, p_X11_cheapestCover, li_0, li_99, hP1, q, reduceCtorEq, false_implies, implies_true, and_self]
      · simp only [p_X11_cheapestCover_28, p_X11_cheapestCover_25, p_X11_cheapestCover_21, p_X11_cheapestCover_7, p_X11_cheapestCover_0, p_X11_cheapestCover, li_0, li_99, hP1, hP2, q, q', Sum.inl.injEq, forall_eq', reduceCtorEq, false_implies, implies_true, and_self]
    · obtain ⟨k1, k2⟩ := K_cover_bad u hd
      rw [hmF, k2]
      exact ⟨And.intro k1 trivial, thr_Th u _⟩
  | true =>
    obtain ⟨q1, q2⟩ := t1 hd
    obtain ⟨a, e, rfl, rfl, hae, he⟩ := days_split hd
    obtain ⟨k1, q, r', kb, k2⟩ := K_byDays (a := a) (e := e) s n8 wo bo hae he
    have hq := kb.1
    have hcp := F_coverPrice q hq (vRow v 50 r')
    have hf : f_X11_cheapestCover (nI a) (nI e) v = (if q < 1000 then Sum.inl (nI q) else Sum.inr "java/util/NoSuchElementException", vRow v 50 r') := by
      simp only [f_X11_cheapestCover_28, f_X11_cheapestCover_25, f_X11_cheapestCover_21, f_X11_cheapestCover_7, f_X11_cheapestCover_0, f_X11_cheapestCover, li_0, li_99, q1, q2, el_l, k2, hcp]
      split <;> rfl
    rw [hf]
    have hp : p_X11_cheapestCover (nI a) (nI e) v := by
      simp only [p_X11_cheapestCover_28, p_X11_cheapestCover_25, p_X11_cheapestCover_21, p_X11_cheapestCover_7, p_X11_cheapestCover_0, p_X11_cheapestCover, li_0, li_99, hP1, hP2, q1, q2, k1, k2, P_coverPrice, Sum.inl.injEq, forall_eq', implies_true, and_self]
    refine ⟨hp, Sc_row (Sc.refl v) _ (Or.inr (Or.inr rfl)), ?_⟩
    by_cases hlt : q < 1000
    · rw [if_pos hlt]
      refine ⟨nI 0, fun h => absurd rfl h, fun _ => ⟨nI q, trivial, rfl, fun u hu => ?_⟩⟩
      obtain ⟨m1, m2⟩ := K_cover (u := u) (a := a) (e := e) hu hw.2.2.2.1 n8 wo hae he
      rw [hmF]
      refine ⟨And.intro m1 trivial, ?_⟩
      rcases m2 with ⟨b1, b2⟩ | ⟨q', b1, b2, b3⟩
      · have := bestW_uniq n8 wo kb b1
        omega
      · have := bestW_uniq n8 wo kb b2
        subst this
        rw [b3]
        exact ⟨rfl, thr_Th u _⟩
    · rw [if_neg hlt]
      refine ⟨nI 2, fun _ => ⟨Or.inr rfl, rfl, fun u hu => ?_⟩, fun h => absurd h n20⟩
      obtain ⟨m1, m2⟩ := K_cover (u := u) (a := a) (e := e) hu hw.2.2.2.1 n8 wo hae he
      rw [hmF]
      refine ⟨And.intro m1 trivial, ?_⟩
      rcases m2 with ⟨b1, b2⟩ | ⟨q', b1, b2, b3⟩
      · rw [b2]
        exact thr_Th u _
      · have := bestW_uniq n8 wo kb b2
        omega
theorem R_cheapestCoverBySets (x y : Int32) {B : Nat} : Rd (fun v => (f_X11_cheapestCoverBySets x y v, v)) (p_X11_cheapestCoverBySets x y) (f_X12_cheapestCoverBySets x y) (p_X12_cheapestCoverBySets x y) eCv oy2 (any Int32) B := by
  intro v np nc nt no h
  have hw := h.1
  have n8 := hw.2.2.2.2.2.2.2
  have wo := h.2.2.2.2.2.2.1
  have bo := h.2.2.2.2.2.2.2.2.2.2.2.2.1
  have s : v.1 46 4 = nI no := h.2.2.2.2.2.2.2.1.2.2.2.2.2.1
  have hP1 := P_X11_checkedNumber y (nI 0) (nI 99) v
  have hP2 := P_X11_checkedNumber x (nI 0) y v
  obtain ⟨t1, t2⟩ := days_tests x y v
  have hmF : ∀ u : gV, f_X12_cheapestCoverBySets x y u = f_X12_cover x y u := fun u => rfl
  have n20 : ¬ nI 2 = nI 0 := by decide +kernel
  cases hd : days x y with
  | false =>
    have hf : f_X11_cheapestCoverBySets x y v = Sum.inr "java/lang/IllegalArgumentException" := by
      rcases t2 hd with q | ⟨q, q'⟩
      · simp only [f_X11_cheapestCoverBySets_28, f_X11_cheapestCoverBySets_21, f_X11_cheapestCoverBySets_7, f_X11_cheapestCoverBySets_0, f_X11_cheapestCoverBySets, li_0, li_99, q, el_r]
      · simp only [f_X11_cheapestCoverBySets_28, f_X11_cheapestCoverBySets_21, f_X11_cheapestCoverBySets_7, f_X11_cheapestCoverBySets_0, f_X11_cheapestCoverBySets, li_0, li_99, q, q', el_l, el_r]
    refine ⟨?_, Sc.refl v, nI 1, fun _ => ⟨Or.inl rfl, hf, fun u hu => ?_⟩, fun h => absurd h n10⟩
    · rcases t2 hd with q | ⟨q, q'⟩
      · simp only [p_X11_cheapestCoverBySets_28, p_X11_cheapestCoverBySets_21, p_X11_cheapestCoverBySets_7, p_X11_cheapestCoverBySets_0, p_X11_cheapestCoverBySets, li_0, li_99, hP1, q, reduceCtorEq, false_implies, implies_true, and_self]
      · simp only [p_X11_cheapestCoverBySets_28, p_X11_cheapestCoverBySets_21, p_X11_cheapestCoverBySets_7, p_X11_cheapestCoverBySets_0, p_X11_cheapestCoverBySets, li_0, li_99, hP1, hP2, q, q', Sum.inl.injEq, forall_eq', reduceCtorEq, false_implies, implies_true, and_self]
    · obtain ⟨k1, k2⟩ := K_cover_bad u hd
      rw [hmF, k2]
      exact ⟨And.intro k1 trivial, thr_Th u _⟩
  | true =>
    obtain ⟨q1, q2⟩ := t1 hd
    obtain ⟨a, e, rfl, rfl, hae, he⟩ := days_split hd
    obtain ⟨k1, q, kb, k2⟩ := K_bySetsC (a := a) (e := e) s n8 wo bo (by omega) he
    have hq := kb.1
    have hcp := F_coverPrice q hq v
    have hf : f_X11_cheapestCoverBySets (nI a) (nI e) v = if q < 1000 then Sum.inl (nI q) else Sum.inr "java/util/NoSuchElementException" := by
      simp only [f_X11_cheapestCoverBySets_28, f_X11_cheapestCoverBySets_21, f_X11_cheapestCoverBySets_7, f_X11_cheapestCoverBySets_0, f_X11_cheapestCoverBySets, li_0, li_99, q1, q2, el_l, k2, hcp]
      split <;> rfl
    have hp : p_X11_cheapestCoverBySets (nI a) (nI e) v := by
      simp only [p_X11_cheapestCoverBySets_28, p_X11_cheapestCoverBySets_21, p_X11_cheapestCoverBySets_7, p_X11_cheapestCoverBySets_0, p_X11_cheapestCoverBySets, li_0, li_99, hP1, hP2, q1, q2, k1, k2, P_coverPrice, Sum.inl.injEq, forall_eq', implies_true, and_self]
    refine ⟨hp, Sc.refl v, ?_⟩
    show ∃ y, (¬ y = nI 0 → oy2 y ∧ f_X11_cheapestCoverBySets (nI a) (nI e) v = Sum.inr (eCv y) ∧ _) ∧ (y = nI 0 → ∃ r, any Int32 r ∧ f_X11_cheapestCoverBySets (nI a) (nI e) v = Sum.inl r ∧ _)
    rw [hf]
    by_cases hlt : q < 1000
    · rw [if_pos hlt]
      refine ⟨nI 0, fun h => absurd rfl h, fun _ => ⟨nI q, trivial, rfl, fun u hu => ?_⟩⟩
      obtain ⟨m1, m2⟩ := K_cover (u := u) (a := a) (e := e) hu hw.2.2.2.1 n8 wo hae he
      rw [hmF]
      refine ⟨And.intro m1 trivial, ?_⟩
      rcases m2 with ⟨b1, b2⟩ | ⟨q', b1, b2, b3⟩
      · have := bestW_uniq n8 wo kb b1
        omega
      · have := bestW_uniq n8 wo kb b2
        subst this
        rw [b3]
        exact ⟨rfl, thr_Th u _⟩
    · rw [if_neg hlt]
      refine ⟨nI 2, fun _ => ⟨Or.inr rfl, rfl, fun u hu => ?_⟩, fun h => absurd h n20⟩
      obtain ⟨m1, m2⟩ := K_cover (u := u) (a := a) (e := e) hu hw.2.2.2.1 n8 wo hae he
      rw [hmF]
      refine ⟨And.intro m1 trivial, ?_⟩
      rcases m2 with ⟨b1, b2⟩ | ⟨q', b1, b2, b3⟩
      · rw [b2]
        exact thr_Th u _
      · have := bestW_uniq n8 wo kb b2
        omega
