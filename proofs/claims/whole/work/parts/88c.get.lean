/-! the plain readings -/
def NSE : String := "java/util/NoSuchElementException"
def IOB : String := "java/lang/IndexOutOfBoundsException"
def IAE : String := "java/lang/IllegalArgumentException"
def ISE : String := "java/lang/IllegalStateException"
def eN (_ : Int32) : String := "java/util/NoSuchElementException"
def eI (_ : Int32) : String := "java/lang/IndexOutOfBoundsException"
def eA (_ : Int32) : String := "java/lang/IllegalArgumentException"
def eS (_ : Int32) : String := "java/lang/IllegalStateException"
theorem le00 : nI 0 ≤ nI 0 := Int32.le_refl _
theorem le10 : ¬ nI 1 ≤ nI 0 := by decide +kernel
theorem le20 : ¬ nI 2 ≤ nI 0 := by decide +kernel
theorem oN_lt : oN none < nI 0 := oN_none'
theorem oN_ge {k : Nat} (h : k < 2147483648) : ¬ nI k < nI 0 := nI_pos (by omega)
theorem oN_le {k : Nat} (h : k < 2147483648) : nI 0 ≤ nI k := nI_pos' (by omega)
theorem oN_s (k : Nat) : oN (some k) = nI k := rfl
theorem thr_1 (u : gV) (y : Int32) {j : Nat} (h : ¬ j = 559) : (thr u y).1 j = u.1 j := by
  unfold thr
  rw [vM_rw, vRow_ne _ _ h]
theorem thr_560 (u : gV) (y : Int32) : (thr u y).1 560 = u.1 560 := thr_1 u y (by omega)
theorem thr_6 (u : gV) (y : Int32) : (thr u y).1 559 6 = y := by
  unfold thr
  rw [vM_rw, vRow_eq, upd_eq]
theorem thr_thr (u : gV) (a b : Int32) : thr (thr u a) b = thr u b := by
  unfold thr
  rw [vM_rw, vM_rw, vM_rw, vRow_row, vRow_eq]
  congr 1
  funext k
  rw [upd_at, upd_at, upd_at]
  by_cases h : k = 6
  · rw [if_pos h, if_pos h]
  · rw [if_neg h, if_neg h, if_neg h]
theorem vM_thr (u : gV) (y : Int32) : vM u 559 6 y = thr u y := rfl
theorem F_checked (c : Int32) (u : gV) : f_X12_checked c u = if c = nI 0 then (nI 1, thr u (nI 1)) else (nI 0, thr u (nI 0)) := by
  simp only [f_X12_checked_13, f_X12_checked_10, f_X12_checked_0, f_X12_checked, li_0, li_1, vM_thr, thr_6]
theorem P_checked (c : Int32) (u : gV) : p_X12_checked c u := by
  simp only [p_X12_checked_13, p_X12_checked_10, p_X12_checked_0, p_X12_checked, implies_true, and_self]
theorem F_plain (c : Int32) (u : gV) : f_X12_plain c u = (c, thr u (nI 0)) := by
  simp only [f_X12_plain_5, f_X12_plain_0, f_X12_plain, li_0, vM_thr]
theorem P_plain (c : Int32) (u : gV) : p_X12_plain c u := by
  simp only [p_X12_plain_5, p_X12_plain_0, p_X12_plain]
theorem K_ofPolicy (x : Int32) {o : Nat} (ho : o < 8) (u : gV) {np : Nat} (h0 : u.1 560 0 = nI np) (hn : np ≤ 8) : p_X12_ofPolicy x (nI o) u ∧ f_X12_ofPolicy x (nI o) u = (pol (u.1 560) np x).elim (nI 0, thr u (nI 1)) fun k => (u.1 560 (8 + 8 * k + o), thr u (nI 0)) := by
  have hP := P_X12_policy x u h0 hn
  have hF := F_X12_policy x u h0 hn
  have hP2 := P_X12_policy x (thr u (nI 0)) (by rw [thr_560]; exact h0) hn
  have hF2 := F_X12_policy x (thr u (nI 0)) (by rw [thr_560]; exact h0) hn
  rw [thr_560] at hF2
  cases e : pol (u.1 560) np x with
  | none =>
    rw [e] at hF
    simp only [f_X12_ofPolicy_34, p_X12_ofPolicy_34, f_X12_ofPolicy_17, p_X12_ofPolicy_17, f_X12_ofPolicy_14, p_X12_ofPolicy_14, f_X12_ofPolicy_0, p_X12_ofPolicy_0, f_X12_ofPolicy, p_X12_ofPolicy, hF, hP, oN_lt, li_0, li_1, F_checked, P_checked, n10, le10, if_true, if_false, reduceIte, not_true_eq_false, not_false_eq_true, true_implies, false_implies, implies_true, and_self, Option.elim]
  | some k =>
    have hk := pol_lt e
    rw [e, oN_s] at hF hF2
    have hg : ¬ nI k < nI 0 := oN_ge (by omega)
    constructor
    · simp (disch := omega) only [p_X12_ofPolicy_34, p_X12_ofPolicy_17, p_X12_ofPolicy_14, p_X12_ofPolicy_0, p_X12_ofPolicy, f_X12_ofPolicy_34, f_X12_ofPolicy_17, f_X12_ofPolicy_14, f_X12_ofPolicy_0, f_X12_ofPolicy, hF, hP, hF2, hP2, hg, li_0, li_1, F_checked, P_checked, P_X12_p, n10, le00, if_true, if_false, reduceIte, not_true_eq_false, not_false_eq_true, true_implies, false_implies, implies_true, and_self]
    · simp (disch := omega) only [f_X12_ofPolicy_34, f_X12_ofPolicy_17, f_X12_ofPolicy_14, f_X12_ofPolicy_0, f_X12_ofPolicy, hF, hF2, hg, li_0, li_1, F_checked, F_X12_p, n10, le00, if_true, if_false, reduceIte, Option.elim, thr_560]
theorem K_ofClaim (x : Int32) {o : Nat} (ho : o < 12) (u : gV) {nc : Nat} (h0 : u.1 560 1 = nI nc) (hn : nc ≤ 12) : p_X12_ofClaim x (nI o) u ∧ f_X12_ofClaim x (nI o) u = (clm (u.1 560) nc x).elim (nI 0, thr u (nI 1)) fun k => (u.1 560 (72 + 12 * k + o), thr u (nI 0)) := by
  have hP := P_X12_claim x u h0 hn
  have hF := F_X12_claim x u h0 hn
  have hP2 := P_X12_claim x (thr u (nI 0)) (by rw [thr_560]; exact h0) hn
  have hF2 := F_X12_claim x (thr u (nI 0)) (by rw [thr_560]; exact h0) hn
  rw [thr_560] at hF2
  cases e : clm (u.1 560) nc x with
  | none =>
    rw [e] at hF
    simp only [f_X12_ofClaim_34, p_X12_ofClaim_34, f_X12_ofClaim_17, p_X12_ofClaim_17, f_X12_ofClaim_14, p_X12_ofClaim_14, f_X12_ofClaim_0, p_X12_ofClaim_0, f_X12_ofClaim, p_X12_ofClaim, hF, hP, oN_lt, li_0, li_1, F_checked, P_checked, n10, le10, if_true, if_false, reduceIte, not_true_eq_false, not_false_eq_true, true_implies, false_implies, implies_true, and_self, Option.elim]
  | some k =>
    have hk := clm_lt e
    rw [e, oN_s] at hF hF2
    have hg : ¬ nI k < nI 0 := oN_ge (by omega)
    constructor
    · simp (disch := omega) only [p_X12_ofClaim_34, p_X12_ofClaim_17, p_X12_ofClaim_14, p_X12_ofClaim_0, p_X12_ofClaim, f_X12_ofClaim_34, f_X12_ofClaim_17, f_X12_ofClaim_14, f_X12_ofClaim_0, f_X12_ofClaim, hF, hP, hF2, hP2, hg, li_0, li_1, F_checked, P_checked, P_X12_c, n10, le00, if_true, if_false, reduceIte, not_true_eq_false, not_false_eq_true, true_implies, false_implies, implies_true, and_self]
    · simp (disch := omega) only [f_X12_ofClaim_34, f_X12_ofClaim_17, f_X12_ofClaim_14, f_X12_ofClaim_0, f_X12_ofClaim, hF, hF2, hg, li_0, li_1, F_checked, F_X12_c, n10, le00, if_true, if_false, reduceIte, Option.elim, thr_560]
theorem Rd_P {B : Nat} {cf : gV → Int32 ⊕ String} {cp : gV → Prop} {fM : gV → Int32 × gV} {pM : gV → Prop} (x : Int32) (val : (Nat → Int32) → Nat → Int32) (hc : ∀ (v : gV) (np nc nt no : Nat), np ≤ 8 → BR B v 1 (v.1 560) np nc nt no → p_X6_placeOf_P 1 x v → (f_X6_placeOf_P 1 x v = Sum.inr "java/util/NoSuchElementException" → cp v ∧ cf v = Sum.inr "java/util/NoSuchElementException") ∧ ∀ k, k < np → f_X6_placeOf_P 1 x v = Sum.inl (nI k) → cp v ∧ cf v = Sum.inl (val (v.1 560) k)) (hm : ∀ (u : gV) (np : Nat), np ≤ 8 → u.1 560 0 = nI np → (pol (u.1 560) np x = none → pM u ∧ (fM u).2 = thr u (nI 1)) ∧ ∀ k, k < np → pol (u.1 560) np x = some k → pM u ∧ fM u = (val (u.1 560) k, thr u (nI 0))) : Rd (fun v => (cf v, v)) cp fM pM eN oy1 (any Int32) B := by
  intro v np nc nt no h
  have hw := h.1
  have n5 := hw.2.2.2.2.1
  obtain ⟨pp, pf⟩ := F_placeOf_P n5 h.2.2.2.2.2.2.2.1 h.2.2.2.2.2.2.2.2.1 x
  obtain ⟨c1, c2⟩ := hc v np nc nt no n5 h pp
  cases e : pol (v.1 560) np x with
  | none =>
    rw [e] at pf
    obtain ⟨d1, d2⟩ := c1 pf
    refine ⟨d1, Sc.refl v, nI 1, fun _ => ⟨rfl, d2, fun u hu => ?_⟩, fun h => absurd h n10⟩
    obtain ⟨q1, q2⟩ := (hm u np n5 (by rw [hu]; exact hw.1)).1 (by rw [hu]; exact e)
    rw [q2]
    exact ⟨q1, thr_Th u _⟩
  | some k =>
    rw [e] at pf
    have hk := pol_lt e
    obtain ⟨d1, d2⟩ := c2 k hk pf
    refine ⟨d1, Sc.refl v, nI 0, fun h => absurd rfl h, fun _ => ⟨_, trivial, d2, fun u hu => ?_⟩⟩
    obtain ⟨q1, q2⟩ := (hm u np n5 (by rw [hu]; exact hw.1)).2 k hk (by rw [hu]; exact e)
    rw [q2, hu]
    exact ⟨q1, rfl, thr_Th u _⟩
theorem Rd_C {B : Nat} {cf : gV → Int32 ⊕ String} {cp : gV → Prop} {fM : gV → Int32 × gV} {pM : gV → Prop} (x : Int32) (val : (Nat → Int32) → Nat → Int32) (hc : ∀ (v : gV) (np nc nt no : Nat), nc ≤ 12 → BR B v 1 (v.1 560) np nc nt no → p_X6_placeOf_C 1 x v → (f_X6_placeOf_C 1 x v = Sum.inr "java/util/NoSuchElementException" → cp v ∧ cf v = Sum.inr "java/util/NoSuchElementException") ∧ ∀ k, k < nc → f_X6_placeOf_C 1 x v = Sum.inl (nI k) → cp v ∧ cf v = Sum.inl (val (v.1 560) k)) (hm : ∀ (u : gV) (np nc nt : Nat), nc ≤ 12 → u.1 560 1 = nI nc → WFc (u.1 560) np nc nt → (clm (u.1 560) nc x = none → pM u ∧ (fM u).2 = thr u (nI 1)) ∧ ∀ k, k < nc → clm (u.1 560) nc x = some k → pM u ∧ fM u = (val (u.1 560) k, thr u (nI 0))) : Rd (fun v => (cf v, v)) cp fM pM eN oy1 (any Int32) B := by
  intro v np nc nt no h
  have hw := h.1
  have n6 := hw.2.2.2.2.2.1
  obtain ⟨pp, pf⟩ := F_placeOf_C n6 h.2.2.2.2.2.2.2.1 h.2.2.2.2.2.2.2.2.2.1 x
  obtain ⟨c1, c2⟩ := hc v np nc nt no n6 h pp
  have wc := h.2.2.2.1
  cases e : clm (v.1 560) nc x with
  | none =>
    rw [e] at pf
    obtain ⟨d1, d2⟩ := c1 pf
    refine ⟨d1, Sc.refl v, nI 1, fun _ => ⟨rfl, d2, fun u hu => ?_⟩, fun h => absurd h n10⟩
    obtain ⟨q1, q2⟩ := (hm u np nc nt n6 (by rw [hu]; exact hw.2.1) (by rw [hu]; exact wc)).1 (by rw [hu]; exact e)
    rw [q2]
    exact ⟨q1, thr_Th u _⟩
  | some k =>
    rw [e] at pf
    have hk := clm_lt e
    obtain ⟨d1, d2⟩ := c2 k hk pf
    refine ⟨d1, Sc.refl v, nI 0, fun h => absurd rfl h, fun _ => ⟨_, trivial, d2, fun u hu => ?_⟩⟩
    obtain ⟨q1, q2⟩ := (hm u np nc nt n6 (by rw [hu]; exact hw.2.1) (by rw [hu]; exact wc)).2 k hk (by rw [hu]; exact e)
    rw [q2, hu]
    exact ⟨q1, rfl, thr_Th u _⟩
theorem R_sumOf (x : Int32) {B : Nat} : Rd (fun v => (f_X11_sumOf x v, v)) (p_X11_sumOf x) (f_X12_sumOf x) (p_X12_sumOf x) eN oy1 (any Int32) B := by
  refine Rd_P x (fun w k => w (8 + 8 * k + 1)) (fun v np nc nt no n5 h pp => ⟨fun pf => ⟨?_, ?_⟩, fun k hk pf => ⟨?_, ?_⟩⟩) fun u np hn h0 => ⟨fun e => ?_, fun k hk e => ?_⟩
  · simp only [p_X11_sumOf_21, p_X11_sumOf_0, p_X11_sumOf, pp, pf, reduceCtorEq, Sum.inl.injEq, forall_eq', el_l, el_r, true_and, and_true, true_implies, false_implies, implies_true, and_self]
  · simp only [f_X11_sumOf_21, f_X11_sumOf_0, f_X11_sumOf, pf, el_r]
  · simp (disch := omega) only [p_X11_sumOf_21, p_X11_sumOf_0, p_X11_sumOf, pp, pf, vi_n, reduceCtorEq, Sum.inl.injEq, forall_eq', el_l, el_r, true_and, and_true, true_implies, false_implies, implies_true, and_self]
  · simp (disch := omega) only [f_X11_sumOf_21, f_X11_sumOf_0, f_X11_sumOf, pf, el_l, cl_n]
    exact congrArg Sum.inl (h.2.2.2.2.2.2.2.2.1 k hk).2.1
  · obtain ⟨q1, q2⟩ := K_ofPolicy x (o := 1) (by omega) u h0 hn
    rw [e] at q2
    have q2 : f_X12_ofPolicy x (nI 1) u = (nI 0, thr u (nI 1)) := q2
    simp only [f_X12_sumOf_6, p_X12_sumOf_6, f_X12_sumOf_0, p_X12_sumOf_0, f_X12_sumOf, p_X12_sumOf, li_1, q1, q2, and_self]
  · obtain ⟨q1, q2⟩ := K_ofPolicy x (o := 1) (by omega) u h0 hn
    rw [e] at q2
    have q2 : f_X12_ofPolicy x (nI 1) u = (u.1 560 (8 + 8 * k + 1), thr u (nI 0)) := q2
    simp only [f_X12_sumOf_6, p_X12_sumOf_6, f_X12_sumOf_0, p_X12_sumOf_0, f_X12_sumOf, p_X12_sumOf, li_1, q1, q2, and_self]
theorem R_riskOf (x : Int32) {B : Nat} : Rd (fun v => (f_X11_riskOf x v, v)) (p_X11_riskOf x) (f_X12_riskOf x) (p_X12_riskOf x) eN oy1 (any Int32) B := by
  refine Rd_P x (fun w k => w (8 + 8 * k + 2)) (fun v np nc nt no n5 h pp => ⟨fun pf => ⟨?_, ?_⟩, fun k hk pf => ⟨?_, ?_⟩⟩) fun u np hn h0 => ⟨fun e => ?_, fun k hk e => ?_⟩
  · simp only [p_X11_riskOf_21, p_X11_riskOf_0, p_X11_riskOf, pp, pf, reduceCtorEq, Sum.inl.injEq, forall_eq', el_l, el_r, true_and, and_true, true_implies, false_implies, implies_true, and_self]
  · simp only [f_X11_riskOf_21, f_X11_riskOf_0, f_X11_riskOf, pf, el_r]
  · simp (disch := omega) only [p_X11_riskOf_21, p_X11_riskOf_0, p_X11_riskOf, pp, pf, vi_n, reduceCtorEq, Sum.inl.injEq, forall_eq', el_l, el_r, true_and, and_true, true_implies, false_implies, implies_true, and_self]
  · simp (disch := omega) only [f_X11_riskOf_21, f_X11_riskOf_0, f_X11_riskOf, pf, el_l, cl_n]
    exact congrArg Sum.inl (h.2.2.2.2.2.2.2.2.1 k hk).2.2.1
  · obtain ⟨q1, q2⟩ := K_ofPolicy x (o := 2) (by omega) u h0 hn
    rw [e] at q2
    have q2 : f_X12_ofPolicy x (nI 2) u = (nI 0, thr u (nI 1)) := q2
    simp only [f_X12_riskOf_6, p_X12_riskOf_6, f_X12_riskOf_0, p_X12_riskOf_0, f_X12_riskOf, p_X12_riskOf, li_2, q1, q2, and_self]
  · obtain ⟨q1, q2⟩ := K_ofPolicy x (o := 2) (by omega) u h0 hn
    rw [e] at q2
    have q2 : f_X12_ofPolicy x (nI 2) u = (u.1 560 (8 + 8 * k + 2), thr u (nI 0)) := q2
    simp only [f_X12_riskOf_6, p_X12_riskOf_6, f_X12_riskOf_0, p_X12_riskOf_0, f_X12_riskOf, p_X12_riskOf, li_2, q1, q2, and_self]
theorem R_premiumOf (x : Int32) {B : Nat} : Rd (fun v => (f_X11_premiumOf x v, v)) (p_X11_premiumOf x) (f_X12_premiumOf x) (p_X12_premiumOf x) eN oy1 (any Int32) B := by
  refine Rd_P x (fun w k => w (8 + 8 * k + 5)) (fun v np nc nt no n5 h pp => ⟨fun pf => ⟨?_, ?_⟩, fun k hk pf => ⟨?_, ?_⟩⟩) fun u np hn h0 => ⟨fun e => ?_, fun k hk e => ?_⟩
  · simp only [p_X11_premiumOf_21, p_X11_premiumOf_0, p_X11_premiumOf, pp, pf, reduceCtorEq, Sum.inl.injEq, forall_eq', el_l, el_r, true_and, and_true, true_implies, false_implies, implies_true, and_self]
  · simp only [f_X11_premiumOf_21, f_X11_premiumOf_0, f_X11_premiumOf, pf, el_r]
  · simp (disch := omega) only [p_X11_premiumOf_21, p_X11_premiumOf_0, p_X11_premiumOf, pp, pf, vi_n, reduceCtorEq, Sum.inl.injEq, forall_eq', el_l, el_r, true_and, and_true, true_implies, false_implies, implies_true, and_self]
  · simp (disch := omega) only [f_X11_premiumOf_21, f_X11_premiumOf_0, f_X11_premiumOf, pf, el_l, cl_n]
    exact congrArg Sum.inl (h.2.2.2.2.2.2.2.2.1 k hk).2.2.2.2.2.1
  · obtain ⟨q1, q2⟩ := K_ofPolicy x (o := 5) (by omega) u h0 hn
    rw [e] at q2
    have q2 : f_X12_ofPolicy x (nI 5) u = (nI 0, thr u (nI 1)) := q2
    simp only [f_X12_premiumOf_6, p_X12_premiumOf_6, f_X12_premiumOf_0, p_X12_premiumOf_0, f_X12_premiumOf, p_X12_premiumOf, li_5, q1, q2, and_self]
  · obtain ⟨q1, q2⟩ := K_ofPolicy x (o := 5) (by omega) u h0 hn
    rw [e] at q2
    have q2 : f_X12_ofPolicy x (nI 5) u = (u.1 560 (8 + 8 * k + 5), thr u (nI 0)) := q2
    simp only [f_X12_premiumOf_6, p_X12_premiumOf_6, f_X12_premiumOf_0, p_X12_premiumOf_0, f_X12_premiumOf, p_X12_premiumOf, li_5, q1, q2, and_self]
theorem R_endOf (x : Int32) {B : Nat} : Rd (fun v => (f_X11_endOf x v, v)) (p_X11_endOf x) (f_X12_endOf x) (p_X12_endOf x) eN oy1 (any Int32) B := by
  refine Rd_P x (fun w k => w (8 + 8 * k + 4)) (fun v np nc nt no n5 h pp => ⟨fun pf => ⟨?_, ?_⟩, fun k hk pf => ⟨?_, ?_⟩⟩) fun u np hn h0 => ⟨fun e => ?_, fun k hk e => ?_⟩
  · simp only [p_X11_endOf_21, p_X11_endOf_0, p_X11_endOf, pp, pf, reduceCtorEq, Sum.inl.injEq, forall_eq', el_l, el_r, true_and, and_true, true_implies, false_implies, implies_true, and_self]
  · simp only [f_X11_endOf_21, f_X11_endOf_0, f_X11_endOf, pf, el_r]
  · simp (disch := omega) only [p_X11_endOf_21, p_X11_endOf_0, p_X11_endOf, pp, pf, vi_n, reduceCtorEq, Sum.inl.injEq, forall_eq', el_l, el_r, true_and, and_true, true_implies, false_implies, implies_true, and_self]
  · simp (disch := omega) only [f_X11_endOf_21, f_X11_endOf_0, f_X11_endOf, pf, el_l, cl_n]
    exact congrArg Sum.inl (h.2.2.2.2.2.2.2.2.1 k hk).2.2.2.2.1
  · obtain ⟨q1, q2⟩ := K_ofPolicy x (o := 4) (by omega) u h0 hn
    rw [e] at q2
    have q2 : f_X12_ofPolicy x (nI 4) u = (nI 0, thr u (nI 1)) := q2
    simp only [f_X12_endOf_6, p_X12_endOf_6, f_X12_endOf_0, p_X12_endOf_0, f_X12_endOf, p_X12_endOf, li_4, q1, q2, and_self]
  · obtain ⟨q1, q2⟩ := K_ofPolicy x (o := 4) (by omega) u h0 hn
    rw [e] at q2
    have q2 : f_X12_ofPolicy x (nI 4) u = (u.1 560 (8 + 8 * k + 4), thr u (nI 0)) := q2
    simp only [f_X12_endOf_6, p_X12_endOf_6, f_X12_endOf_0, p_X12_endOf_0, f_X12_endOf, p_X12_endOf, li_4, q1, q2, and_self]
theorem R_policyOf (x : Int32) {B : Nat} : Rd (fun v => (f_X11_policyOf x v, v)) (p_X11_policyOf x) (f_X12_policyOf x) (p_X12_policyOf x) eN oy1 (any Int32) B := by
  refine Rd_C x (fun w k => w (72 + 12 * k + 1)) (fun v np nc nt no n5 h pp => ⟨fun pf => ⟨?_, ?_⟩, fun k hk pf => ⟨?_, ?_⟩⟩) fun u np nc nt hn h0 wc => ⟨fun e => ?_, fun k hk e => ?_⟩
  · simp only [p_X11_policyOf_21, p_X11_policyOf_0, p_X11_policyOf, pp, pf, reduceCtorEq, Sum.inl.injEq, forall_eq', el_l, el_r, true_and, and_true, true_implies, false_implies, implies_true, and_self]
  · simp only [f_X11_policyOf_21, f_X11_policyOf_0, f_X11_policyOf, pf, el_r]
  · simp (disch := omega) only [p_X11_policyOf_21, p_X11_policyOf_0, p_X11_policyOf, pp, pf, vi_n, reduceCtorEq, Sum.inl.injEq, forall_eq', el_l, el_r, true_and, and_true, true_implies, false_implies, implies_true, and_self]
  · simp (disch := omega) only [f_X11_policyOf_21, f_X11_policyOf_0, f_X11_policyOf, pf, el_l, cl_n]
    exact congrArg Sum.inl (h.2.2.2.2.2.2.2.2.2.1 k hk).2.1
  · obtain ⟨q1, q2⟩ := K_ofClaim x (o := 1) (by omega) u h0 hn
    rw [e] at q2
    have q2 : f_X12_ofClaim x (nI 1) u = (nI 0, thr u (nI 1)) := q2
    simp only [f_X12_policyOf_6, p_X12_policyOf_6, f_X12_policyOf_0, p_X12_policyOf_0, f_X12_policyOf, p_X12_policyOf, li_1, q1, q2, and_self]
  · obtain ⟨q1, q2⟩ := K_ofClaim x (o := 1) (by omega) u h0 hn
    rw [e] at q2
    have q2 : f_X12_ofClaim x (nI 1) u = (u.1 560 (72 + 12 * k + 1), thr u (nI 0)) := q2
    simp only [f_X12_policyOf_6, p_X12_policyOf_6, f_X12_policyOf_0, p_X12_policyOf_0, f_X12_policyOf, p_X12_policyOf, li_1, q1, q2, and_self]
theorem R_amountOf (x : Int32) {B : Nat} : Rd (fun v => (f_X11_amountOf x v, v)) (p_X11_amountOf x) (f_X12_amountOf x) (p_X12_amountOf x) eN oy1 (any Int32) B := by
  refine Rd_C x (fun w k => w (72 + 12 * k + 3)) (fun v np nc nt no n5 h pp => ⟨fun pf => ⟨?_, ?_⟩, fun k hk pf => ⟨?_, ?_⟩⟩) fun u np nc nt hn h0 wc => ⟨fun e => ?_, fun k hk e => ?_⟩
  · simp only [p_X11_amountOf_21, p_X11_amountOf_0, p_X11_amountOf, pp, pf, reduceCtorEq, Sum.inl.injEq, forall_eq', el_l, el_r, true_and, and_true, true_implies, false_implies, implies_true, and_self]
  · simp only [f_X11_amountOf_21, f_X11_amountOf_0, f_X11_amountOf, pf, el_r]
  · simp (disch := omega) only [p_X11_amountOf_21, p_X11_amountOf_0, p_X11_amountOf, pp, pf, vi_n, reduceCtorEq, Sum.inl.injEq, forall_eq', el_l, el_r, true_and, and_true, true_implies, false_implies, implies_true, and_self]
  · simp (disch := omega) only [f_X11_amountOf_21, f_X11_amountOf_0, f_X11_amountOf, pf, el_l, cl_n]
    exact congrArg Sum.inl (h.2.2.2.2.2.2.2.2.2.1 k hk).2.2.2.1
  · obtain ⟨q1, q2⟩ := K_ofClaim x (o := 3) (by omega) u h0 hn
    rw [e] at q2
    have q2 : f_X12_ofClaim x (nI 3) u = (nI 0, thr u (nI 1)) := q2
    simp only [f_X12_amountOf_6, p_X12_amountOf_6, f_X12_amountOf_0, p_X12_amountOf_0, f_X12_amountOf, p_X12_amountOf, li_3, q1, q2, and_self]
  · obtain ⟨q1, q2⟩ := K_ofClaim x (o := 3) (by omega) u h0 hn
    rw [e] at q2
    have q2 : f_X12_ofClaim x (nI 3) u = (u.1 560 (72 + 12 * k + 3), thr u (nI 0)) := q2
    simp only [f_X12_amountOf_6, p_X12_amountOf_6, f_X12_amountOf_0, p_X12_amountOf_0, f_X12_amountOf, p_X12_amountOf, li_3, q1, q2, and_self]
theorem R_paidOf (x : Int32) {B : Nat} : Rd (fun v => (f_X11_paidOf x v, v)) (p_X11_paidOf x) (f_X12_paidOf x) (p_X12_paidOf x) eN oy1 (any Int32) B := by
  refine Rd_C x (fun w k => w (72 + 12 * k + 4)) (fun v np nc nt no n5 h pp => ⟨fun pf => ⟨?_, ?_⟩, fun k hk pf => ⟨?_, ?_⟩⟩) fun u np nc nt hn h0 wc => ⟨fun e => ?_, fun k hk e => ?_⟩
  · simp only [p_X11_paidOf_21, p_X11_paidOf_0, p_X11_paidOf, pp, pf, reduceCtorEq, Sum.inl.injEq, forall_eq', el_l, el_r, true_and, and_true, true_implies, false_implies, implies_true, and_self]
  · simp only [f_X11_paidOf_21, f_X11_paidOf_0, f_X11_paidOf, pf, el_r]
  · simp (disch := omega) only [p_X11_paidOf_21, p_X11_paidOf_0, p_X11_paidOf, pp, pf, vi_n, reduceCtorEq, Sum.inl.injEq, forall_eq', el_l, el_r, true_and, and_true, true_implies, false_implies, implies_true, and_self]
  · simp (disch := omega) only [f_X11_paidOf_21, f_X11_paidOf_0, f_X11_paidOf, pf, el_l, cl_n]
    exact congrArg Sum.inl (h.2.2.2.2.2.2.2.2.2.1 k hk).2.2.2.2.1
  · obtain ⟨q1, q2⟩ := K_ofClaim x (o := 4) (by omega) u h0 hn
    rw [e] at q2
    have q2 : f_X12_ofClaim x (nI 4) u = (nI 0, thr u (nI 1)) := q2
    simp only [f_X12_paidOf_6, p_X12_paidOf_6, f_X12_paidOf_0, p_X12_paidOf_0, f_X12_paidOf, p_X12_paidOf, li_4, q1, q2, and_self]
  · obtain ⟨q1, q2⟩ := K_ofClaim x (o := 4) (by omega) u h0 hn
    rw [e] at q2
    have q2 : f_X12_ofClaim x (nI 4) u = (u.1 560 (72 + 12 * k + 4), thr u (nI 0)) := q2
    simp only [f_X12_paidOf_6, p_X12_paidOf_6, f_X12_paidOf_0, p_X12_paidOf_0, f_X12_paidOf, p_X12_paidOf, li_4, q1, q2, and_self]
theorem R_sumLeft (x : Int32) {B : Nat} : Rd (fun v => (f_X11_sumLeft x v, v)) (p_X11_sumLeft x) (f_X12_sumLeft x) (p_X12_sumLeft x) eN oy1 (any Int32) B := by
  refine Rd_P x (fun w k => w (8 + 8 * k + 1) - w (8 + 8 * k + 6)) (fun v np nc nt no n5 h pp => ⟨fun pf => ⟨?_, ?_⟩, fun k hk pf => ⟨?_, ?_⟩⟩) fun u np hn h0 => ⟨fun e => ?_, fun k hk e => ?_⟩
  · simp only [p_X11_sumLeft_18, p_X11_sumLeft_0, p_X11_sumLeft, pp, pf, reduceCtorEq, Sum.inl.injEq, forall_eq', el_l, el_r, true_and, and_true, true_implies, false_implies, implies_true, and_self]
  · simp only [f_X11_sumLeft_18, f_X11_sumLeft_0, f_X11_sumLeft, pf, el_r]
  · simp (disch := omega) only [p_X11_sumLeft_18, p_X11_sumLeft_0, p_X11_sumLeft, p_X5_leftAt_0, p_X5_leftAt, pp, pf, vi_n, reduceCtorEq, Sum.inl.injEq, forall_eq', el_l, el_r, true_and, and_true, true_implies, false_implies, implies_true, and_self]
  · simp (disch := omega) only [f_X11_sumLeft_18, f_X11_sumLeft_0, f_X11_sumLeft, f_X5_leftAt_0, f_X5_leftAt, pf, el_l, cl_n]
    have hb := h.2.2.2.2.2.2.2.2.1 k hk
    rw [hb.2.1, hb.2.2.2.2.2.2]
  · obtain ⟨q1, q2⟩ := K_ofPolicy x (o := 1) (by omega) u h0 hn
    obtain ⟨q3, q4⟩ := K_ofPolicy x (o := 6) (by omega) (thr u (nI 1)) (by rw [thr_560]; exact h0) hn
    rw [e] at q2
    rw [thr_560, e] at q4
    have q2 : f_X12_ofPolicy x (nI 1) u = (nI 0, thr u (nI 1)) := q2
    have q4 : f_X12_ofPolicy x (nI 6) (thr u (nI 1)) = (nI 0, thr (thr u (nI 1)) (nI 1)) := q4
    rw [thr_thr] at q4
    simp only [f_X12_sumLeft_13, p_X12_sumLeft_13, f_X12_sumLeft_6, p_X12_sumLeft_6, f_X12_sumLeft_0, p_X12_sumLeft_0, f_X12_sumLeft, p_X12_sumLeft, li_1, li_6, q1, q2, q3, q4, and_self]
  · obtain ⟨q1, q2⟩ := K_ofPolicy x (o := 1) (by omega) u h0 hn
    obtain ⟨q3, q4⟩ := K_ofPolicy x (o := 6) (by omega) (thr u (nI 0)) (by rw [thr_560]; exact h0) hn
    rw [e] at q2
    rw [thr_560, e] at q4
    have q2 : f_X12_ofPolicy x (nI 1) u = (u.1 560 (8 + 8 * k + 1), thr u (nI 0)) := q2
    have q4 : f_X12_ofPolicy x (nI 6) (thr u (nI 0)) = (u.1 560 (8 + 8 * k + 6), thr (thr u (nI 0)) (nI 0)) := q4
    rw [thr_thr] at q4
    simp only [f_X12_sumLeft_13, p_X12_sumLeft_13, f_X12_sumLeft_6, p_X12_sumLeft_6, f_X12_sumLeft_0, p_X12_sumLeft_0, f_X12_sumLeft, p_X12_sumLeft, li_1, li_6, q1, q2, q3, q4, and_self]
theorem nar_iff (x : Int32) : (narrow .char (.int x) = .int x) ↔ vp_nar .char x = x := by
  have h : narrow .char (.int x) = .int (vp_nar .char x) := rfl
  rw [h]
  exact ⟨fun h => by injection h, fun h => by rw [h]⟩
theorem isC_65536 {c : Int32} (h : isC c = true) : (c.toUInt32 % 65536).toInt32 = c := by
  unfold isC at h
  simp only [Bool.or_eq_true, decide_eq_true_iff] at h
  rcases h with ((h | h) | h) | h <;> subst h <;> decide +kernel
theorem R_causeOf (x : Int32) {B : Nat} : Rd (fun v => (f_X11_causeOf x v, v)) (p_X11_causeOf x) (f_X12_causeOf x) (p_X12_causeOf x) eN oy1 (any Int32) B := by
  refine Rd_C x (fun w k => w (72 + 12 * k + 2)) (fun v np nc nt no n5 h pp => ⟨fun pf => ⟨?_, ?_⟩, fun k hk pf => ⟨?_, ?_⟩⟩) fun u np nc nt hn h0 wc => ⟨fun e => ?_, fun k hk e => ?_⟩
  · simp only [p_X11_causeOf_21, p_X11_causeOf_0, p_X11_causeOf, pp, pf, reduceCtorEq, Sum.inl.injEq, forall_eq', el_l, el_r, true_and, and_true, true_implies, false_implies, implies_true, and_self]
  · simp only [f_X11_causeOf_21, f_X11_causeOf_0, f_X11_causeOf, pf, el_r]
  · have hx := (nar_iff _).mpr (h.2.2.2.2.2.2.2.2.2.2.2.2.2.2 k (by omega))
    simp (disch := omega) only [p_X11_causeOf_21, p_X11_causeOf_0, p_X11_causeOf, pp, pf, cl_n, vi_n, hx, reduceCtorEq, Sum.inl.injEq, forall_eq', el_l, el_r, true_and, and_true, true_implies, false_implies, implies_true, and_self]
  · simp (disch := omega) only [f_X11_causeOf_21, f_X11_causeOf_0, f_X11_causeOf, pf, el_l, cl_n]
    exact congrArg Sum.inl (h.2.2.2.2.2.2.2.2.2.1 k hk).2.2.1
  · obtain ⟨q1, q2⟩ := K_ofClaim x (o := 2) (by omega) u h0 hn
    rw [e] at q2
    have q2 : f_X12_ofClaim x (nI 2) u = (nI 0, thr u (nI 1)) := q2
    have hx : narrow .char (.int (nI 32)) = .int (nI 32) := by decide +kernel
    simp only [f_X12_causeOf_21, p_X12_causeOf_21, f_X12_causeOf_6, p_X12_causeOf_6, f_X12_causeOf_0, p_X12_causeOf_0, f_X12_causeOf, p_X12_causeOf, li_2, li_32, li_0, q1, q2, thr_6, le10, hx, if_false, false_implies, not_false_eq_true, implies_true, and_self]
  · obtain ⟨q1, q2⟩ := K_ofClaim x (o := 2) (by omega) u h0 hn
    rw [e] at q2
    have q2 : f_X12_ofClaim x (nI 2) u = (u.1 560 (72 + 12 * k + 2), thr u (nI 0)) := q2
    have hc := (wc.1 k hk).2.2.2.1
    have hx := (nar_iff _).mpr (nar_isC hc)
    simp only [f_X12_causeOf_21, p_X12_causeOf_21, f_X12_causeOf_6, p_X12_causeOf_6, f_X12_causeOf_0, p_X12_causeOf_0, f_X12_causeOf, p_X12_causeOf, li_2, li_0, q1, q2, thr_6, le00, isC_65536 hc, hx, if_true, true_implies, not_true_eq_false, false_implies, implies_true, and_self]
theorem R_isActive (x : Int32) {B : Nat} : Rd (fun v => (f_X11_isActive x v, v)) (p_X11_isActive x) (f_X12_isActive x) (p_X12_isActive x) eN oy1 (any Int32) B := by
  refine Rd_P x (fun w k => if act w k = true then nI 1 else nI 0) (fun v np nc nt no n5 h pp => ⟨fun pf => ⟨?_, ?_⟩, fun k hk pf => ⟨?_, ?_⟩⟩) fun u np hn h0 => ⟨fun e => ?_, fun k hk e => ?_⟩
  · simp only [p_X11_isActive_18, p_X11_isActive_0, p_X11_isActive, pp, pf, reduceCtorEq, Sum.inl.injEq, forall_eq', el_l, el_r, true_and, and_true, true_implies, false_implies, implies_true, and_self]
  · simp only [f_X11_isActive_18, f_X11_isActive_0, f_X11_isActive, pf, el_r]
  · have s7 : v.1 1 5 = v.1 560 6 := h.2.2.2.2.2.2.2.1.2.2.2.2.2.2.1
    have hF := F_act n5 h.2.2.2.2.2.2.2.2.1 hk
    have hP := P_X5_isActiveAt v (v.1 560 6) (k := k) (by omega)
    simp (disch := omega) only [p_X11_isActive_18, p_X11_isActive_0, p_X11_isActive, pp, pf, s7, hF, hP, reduceCtorEq, Sum.inl.injEq, forall_eq', el_l, el_r, true_and, and_true, true_implies, false_implies, implies_true, and_self]
    cases act (v.1 560) k
    · exact Or.inl rfl
    · exact Or.inr rfl
  · have s7 : v.1 1 5 = v.1 560 6 := h.2.2.2.2.2.2.2.1.2.2.2.2.2.2.1
    have hF := F_act n5 h.2.2.2.2.2.2.2.2.1 hk
    simp (disch := omega) only [f_X11_isActive_18, f_X11_isActive_0, f_X11_isActive, pf, el_l, s7, hF]
  · have hP := P_X12_policy x u h0 hn
    have hF := F_X12_policy x u h0 hn
    rw [e] at hF
    have h01 : nI 0 = nI 0 ∨ nI 0 = nI 1 := Or.inl rfl
    simp only [f_X12_isActive_37, p_X12_isActive_37, f_X12_isActive_36, p_X12_isActive_36, f_X12_isActive_17, p_X12_isActive_17, f_X12_isActive_14, p_X12_isActive_14, f_X12_isActive_0, p_X12_isActive_0, f_X12_isActive, p_X12_isActive, hF, hP, oN_lt, li_0, li_1, F_checked, P_checked, n10, if_true, if_false, reduceIte, not_true_eq_false, not_false_eq_true, true_implies, false_implies, implies_true, and_self, true_or, or_true, true_and, and_true]
  · have hP := P_X12_policy x u h0 hn
    have hF := F_X12_policy x u h0 hn
    have hP2 := P_X12_policy x (thr u (nI 0)) (by rw [thr_560]; exact h0) hn
    have hF2 := F_X12_policy x (thr u (nI 0)) (by rw [thr_560]; exact h0) hn
    rw [thr_560] at hF2
    rw [e, oN_s] at hF hF2
    have hg : ¬ nI k < nI 0 := oN_ge (by omega)
    have hA := F_X12_isActiveAt (thr u (nI 0)) (k := k) (by omega)
    have hAp := P_X12_isActiveAt (thr u (nI 0)) (k := k) (by omega)
    rw [thr_560] at hA
    have h01 : nI 0 = nI 0 ∨ nI 0 = nI 1 := Or.inl rfl
    have h11 : nI 1 = nI 0 ∨ nI 1 = nI 1 := Or.inr rfl
    simp only [f_X12_isActive_37, p_X12_isActive_37, f_X12_isActive_36, p_X12_isActive_36, f_X12_isActive_17, p_X12_isActive_17, f_X12_isActive_14, p_X12_isActive_14, f_X12_isActive_0, p_X12_isActive_0, f_X12_isActive, p_X12_isActive, hF, hP, hF2, hP2, hA, hAp, hg, li_0, li_1, F_checked, P_checked, n10, if_true, if_false, reduceIte, not_true_eq_false, not_false_eq_true, true_implies, false_implies, implies_true, and_self, true_or, or_true, true_and, and_true]
    cases act (u.1 560) k
    · simp only [Bool.false_eq_true, if_false, if_true, reduceIte, not_true_eq_false, not_false_eq_true, true_implies, false_implies, true_or, or_true, and_self]
    · simp only [n10, if_false, if_true, reduceIte, not_true_eq_false, not_false_eq_true, true_implies, false_implies, true_or, or_true, and_self]
theorem F_sumRow {v : gV} {w : Nat → Int32} {nc k : Nat} (bc : BRc v 1 w nc) (hk : k < nc) : p_X11_sumOfRow (1 + 17 + 1 + k) 4 (nI 4) v ∧ f_X11_sumOfRow (1 + 17 + 1 + k) 4 (nI 4) v = bor w k := by
  refine ⟨P_X11_sumOfRow _ 4 v (by omega) (by omega), ?_⟩
  rw [F_X11_sumOfRow _ 4 v (by omega) (by omega)]
  unfold bor
  exact sm_congr fun o ho => by
    rw [show 1 + 17 + 1 + k = 1 + 18 + k by omega]
    exact (bc k hk).2.2.2.2.2.2 o ho
theorem R_ownPart (x : Int32) {B : Nat} : Rd (fun v => (f_X11_ownPart x v, v)) (p_X11_ownPart x) (f_X12_ownPart x) (p_X12_ownPart x) eN oy1 (any Int32) B := by
  refine Rd_C x (fun w k => w (72 + 12 * k + 3) - bor w k) (fun v np nc nt no n5 h pp => ⟨fun pf => ⟨?_, ?_⟩, fun k hk pf => ⟨?_, ?_⟩⟩) fun u np nc nt hn h0 wc => ⟨fun e => ?_, fun k hk e => ?_⟩
  · simp only [p_X11_ownPart_18, p_X11_ownPart_0, p_X11_ownPart, pp, pf, reduceCtorEq, Sum.inl.injEq, forall_eq', el_l, el_r, true_and, and_true, true_implies, false_implies, implies_true, and_self]
  · simp only [f_X11_ownPart_18, f_X11_ownPart_0, f_X11_ownPart, pf, el_r]
  · have bc := h.2.2.2.2.2.2.2.2.2.1
    have hR := (F_sumRow bc hk).1
    simp (disch := omega) only [p_X11_ownPart_18, p_X11_ownPart_0, p_X11_ownPart, p_X2_ownPartAt_0, p_X2_ownPartAt, pp, pf, vi_n, cl_n, li_4, hR, reduceCtorEq, Sum.inl.injEq, forall_eq', el_l, el_r, true_and, and_true, true_implies, false_implies, implies_true, and_self]
  · have bc := h.2.2.2.2.2.2.2.2.2.1
    have hR := (F_sumRow bc hk).2
    simp (disch := omega) only [f_X11_ownPart_18, f_X11_ownPart_0, f_X11_ownPart, f_X2_ownPartAt_0, f_X2_ownPartAt, pf, el_l, cl_n, li_4, hR]
    rw [(bc k hk).2.2.2.1]
  · have hP := P_X12_claim x u h0 hn
    have hF := F_X12_claim x u h0 hn
    rw [e] at hF
    simp only [f_X12_ownPart_44, p_X12_ownPart_44, f_X12_ownPart_17, p_X12_ownPart_17, f_X12_ownPart_14, p_X12_ownPart_14, f_X12_ownPart_0, p_X12_ownPart_0, f_X12_ownPart, p_X12_ownPart, hF, hP, oN_lt, li_0, li_1, F_checked, P_checked, n10, le10, if_true, if_false, reduceIte, not_true_eq_false, not_false_eq_true, true_implies, false_implies, implies_true, and_self]
  · have hP := P_X12_claim x u h0 hn
    have hF := F_X12_claim x u h0 hn
    have hP2 := P_X12_claim x (thr u (nI 0)) (by rw [thr_560]; exact h0) hn
    have hF2 := F_X12_claim x (thr u (nI 0)) (by rw [thr_560]; exact h0) hn
    rw [thr_560] at hF2
    rw [e, oN_s] at hF hF2
    have hg : ¬ nI k < nI 0 := oN_ge (by omega)
    simp (disch := omega) only [f_X12_ownPart_44, p_X12_ownPart_44, f_X12_ownPart_17, p_X12_ownPart_17, f_X12_ownPart_14, p_X12_ownPart_14, f_X12_ownPart_0, p_X12_ownPart_0, f_X12_ownPart, p_X12_ownPart, hF, hP, hF2, hP2, hg, li_0, li_1, li_3, F_checked, P_checked, F_X12_c, P_X12_c, F_X12_borneOf, P_X12_borneOf, n10, le00, thr_560, if_true, if_false, reduceIte, not_true_eq_false, not_false_eq_true, true_implies, false_implies, implies_true, and_self]
theorem R_recovered (x : Int32) {B : Nat} : Rd (fun v => (f_X11_recovered x v, v)) (p_X11_recovered x) (f_X12_recovered x) (p_X12_recovered x) eN oy1 (any Int32) B := by
  refine Rd_C x rcv (fun v np nc nt no n5 h pp => ⟨fun pf => ⟨?_, ?_⟩, fun k hk pf => ⟨?_, ?_⟩⟩) fun u np nc nt hn h0 wc => ⟨fun e => ?_, fun k hk e => ?_⟩
  · simp only [p_X11_recovered_18, p_X11_recovered_0, p_X11_recovered, pp, pf, reduceCtorEq, Sum.inl.injEq, forall_eq', el_l, el_r, true_and, and_true, true_implies, false_implies, implies_true, and_self]
  · simp only [f_X11_recovered_18, f_X11_recovered_0, f_X11_recovered, pf, el_r]
  · have bc := h.2.2.2.2.2.2.2.2.2.1
    have hR := (F_sumRow bc hk).1
    have hz : ¬ v.1 (1 + 14) k = nI 0 := by
      rw [(bc k hk).2.2.2.1]
      exact WFc_ne0 h.2.2.2.1 hk
    simp (disch := omega) only [p_X11_recovered_18, p_X11_recovered_0, p_X11_recovered, p_X2_recoveredAt_0, p_X2_recoveredAt, pp, pf, vi_n, cl_n, li_0, li_4, hR, hz, not_false_eq_true, reduceCtorEq, Sum.inl.injEq, forall_eq', el_l, el_r, true_and, and_true, true_implies, false_implies, implies_true, and_self]
  · have bc := h.2.2.2.2.2.2.2.2.2.1
    have hR := (F_sumRow bc hk).2
    have h1 : nI 1 ≤ v.1 560 (72 + 12 * k + 3) := by
      rw [i_le]
      exact (h.2.2.2.1.1 k hk).2.2.2.2.1
    simp (disch := omega) only [f_X11_recovered_18, f_X11_recovered_0, f_X11_recovered, f_X2_recoveredAt_0, f_X2_recoveredAt, pf, el_l, cl_n, li_0, li_1, li_4, hR, (bc k hk).2.2.2.1, (bc k hk).2.2.2.2.1, h1, if_true, rcv]
  · have hP := P_X12_claim x u h0 hn
    have hF := F_X12_claim x u h0 hn
    rw [e] at hF
    simp only [f_X12_recovered_33, p_X12_recovered_33, f_X12_recovered_17, p_X12_recovered_17, f_X12_recovered_14, p_X12_recovered_14, f_X12_recovered_0, p_X12_recovered_0, f_X12_recovered, p_X12_recovered, hF, hP, oN_lt, li_0, li_1, F_checked, P_checked, n10, le10, if_true, if_false, reduceIte, not_true_eq_false, not_false_eq_true, true_implies, false_implies, implies_true, and_self]
  · have hP := P_X12_claim x u h0 hn
    have hF := F_X12_claim x u h0 hn
    have hP2 := P_X12_claim x (thr u (nI 0)) (by rw [thr_560]; exact h0) hn
    have hF2 := F_X12_claim x (thr u (nI 0)) (by rw [thr_560]; exact h0) hn
    rw [thr_560] at hF2
    rw [e, oN_s] at hF hF2
    have hg : ¬ nI k < nI 0 := oN_ge (by omega)
    have hR := F_X12_recoveredOf (thr u (nI 0)) (k := k) (by omega)
    have hRp := P_X12_recoveredOf (thr u (nI 0)) (k := k) (by omega) (by rw [thr_560]; exact WFc_ne0 wc hk)
    rw [thr_560] at hR
    simp only [f_X12_recovered_33, p_X12_recovered_33, f_X12_recovered_17, p_X12_recovered_17, f_X12_recovered_14, p_X12_recovered_14, f_X12_recovered_0, p_X12_recovered_0, f_X12_recovered, p_X12_recovered, hF, hP, hF2, hP2, hg, hR, hRp, li_0, li_1, F_checked, P_checked, n10, le00, if_true, if_false, reduceIte, not_true_eq_false, not_false_eq_true, true_implies, false_implies, implies_true, and_self]
theorem R_policyAt (x : Int32) {B : Nat} : Rd (fun v => (f_X11_policyAt x v, v)) (p_X11_policyAt x) (f_X12_policyAt x) (p_X12_policyAt x) eI oy1 (any Int32) B := by
  intro v np nc nt no h
  have hw := h.1
  have n5 : np ≤ 8 := hw.2.2.2.2.1
  have s1 : v.1 (1 + 1) 1 = nI np := h.2.2.2.2.2.2.2.1.1
  have hF := F_X11_checkedIndex x (nI np) v
  have hP := P_X11_checkedIndex x (nI np) v
  cases hx : inx x (nI np) with
  | false =>
    have hF : f_X11_checkedIndex x (nI np) v = Sum.inr "java/lang/IndexOutOfBoundsException" := by rw [hF, hx]; rfl
    have hf : f_X11_policyAt x v = Sum.inr "java/lang/IndexOutOfBoundsException" := by simp only [f_X11_policyAt_24, f_X11_policyAt_0, f_X11_policyAt, s1, hF, el_r]
    refine ⟨?_, Sc.refl v, nI 1, fun _ => ⟨rfl, hf, fun u hu => ?_⟩, fun h => absurd h n10⟩
    · simp only [p_X11_policyAt_24, p_X11_policyAt_0, p_X11_policyAt, s1, hP, hF, reduceCtorEq, Sum.inl.injEq, forall_eq', el_l, el_r, true_and, and_true, true_implies, false_implies, implies_true, and_self]
    · have hI : f_X12_in x (nI 0) (nI np - nI 1) u = nI 0 := by rw [F_X12_in, inb_inx (by omega), hx]; rfl
      have u0 : u.1 560 0 = nI np := by rw [hu]; exact hw.1
      have hm : p_X12_policyAt x u ∧ f_X12_policyAt x u = (nI 0, thr u (nI 1)) := by
        simp (disch := omega) only [f_X12_policyAt_30, p_X12_policyAt_30, f_X12_policyAt_17, p_X12_policyAt_17, f_X12_policyAt_0, p_X12_policyAt_0, f_X12_policyAt, p_X12_policyAt, li_0, li_1, cl_n, u0, hI, P_X12_in, F_checked, P_checked, le10, n10, if_true, if_false, reduceIte, not_false_eq_true, not_true_eq_false, false_implies, true_implies, implies_true, and_self]
      rw [hm.2]
      exact ⟨hm.1, thr_Th u _⟩
  | true =>
    obtain ⟨k, hk, rfl⟩ := inx_n (by omega) hx
    have hF : f_X11_checkedIndex (nI k) (nI np) v = Sum.inl (nI k) := by rw [hF, hx]; rfl
    have hf : f_X11_policyAt (nI k) v = Sum.inl (v.1 560 (8 + 8 * k + 0)) := by
      simp (disch := omega) only [f_X11_policyAt_24, f_X11_policyAt_0, f_X11_policyAt, s1, hF, el_l, cl_n]
      exact congrArg Sum.inl (h.2.2.2.2.2.2.2.2.1 k hk).1
    refine ⟨?_, Sc.refl v, nI 0, fun h => absurd rfl h, fun _ => ⟨_, trivial, hf, fun u hu => ?_⟩⟩
    · simp (disch := omega) only [p_X11_policyAt_24, p_X11_policyAt_0, p_X11_policyAt, s1, hP, hF, vi_n, reduceCtorEq, Sum.inl.injEq, forall_eq', el_l, el_r, true_and, and_true, true_implies, false_implies, implies_true, and_self]
    · have hI : f_X12_in (nI k) (nI 0) (nI np - nI 1) u = nI 1 := by rw [F_X12_in, inb_inx (by omega), hx]; rfl
      have u0 : u.1 560 0 = nI np := by rw [hu]; exact hw.1
      have hm : p_X12_policyAt (nI k) u ∧ f_X12_policyAt (nI k) u = (v.1 560 (8 + 8 * k + 0), thr u (nI 0)) := by
        simp (disch := omega) only [f_X12_policyAt_30, p_X12_policyAt_30, f_X12_policyAt_17, p_X12_policyAt_17, f_X12_policyAt_0, p_X12_policyAt_0, f_X12_policyAt, p_X12_policyAt, li_0, li_1, cl_n, u0, hI, P_X12_in, F_checked, P_checked, F_X12_p, P_X12_p, thr_560, hu, le00, n10, if_true, if_false, reduceIte, not_false_eq_true, not_true_eq_false, false_implies, true_implies, implies_true, and_self]
      rw [hm.2]
      exact ⟨hm.1, rfl, thr_Th u _⟩
theorem R_claimAt (x : Int32) {B : Nat} : Rd (fun v => (f_X11_claimAt x v, v)) (p_X11_claimAt x) (f_X12_claimAt x) (p_X12_claimAt x) eI oy1 (any Int32) B := by
  intro v np nc nt no h
  have hw := h.1
  have n5 : nc ≤ 12 := hw.2.2.2.2.2.1
  have s1 : v.1 (1 + 10) 1 = nI nc := h.2.2.2.2.2.2.2.1.2.2.1
  have hF := F_X11_checkedIndex x (nI nc) v
  have hP := P_X11_checkedIndex x (nI nc) v
  cases hx : inx x (nI nc) with
  | false =>
    have hF : f_X11_checkedIndex x (nI nc) v = Sum.inr "java/lang/IndexOutOfBoundsException" := by rw [hF, hx]; rfl
    have hf : f_X11_claimAt x v = Sum.inr "java/lang/IndexOutOfBoundsException" := by simp only [f_X11_claimAt_24, f_X11_claimAt_0, f_X11_claimAt, s1, hF, el_r]
    refine ⟨?_, Sc.refl v, nI 1, fun _ => ⟨rfl, hf, fun u hu => ?_⟩, fun h => absurd h n10⟩
    · simp only [p_X11_claimAt_24, p_X11_claimAt_0, p_X11_claimAt, s1, hP, hF, reduceCtorEq, Sum.inl.injEq, forall_eq', el_l, el_r, true_and, and_true, true_implies, false_implies, implies_true, and_self]
    · have hI : f_X12_in x (nI 0) (nI nc - nI 1) u = nI 0 := by rw [F_X12_in, inb_inx (by omega), hx]; rfl
      have u0 : u.1 560 1 = nI nc := by rw [hu]; exact hw.2.1
      have hm : p_X12_claimAt x u ∧ f_X12_claimAt x u = (nI 0, thr u (nI 1)) := by
        simp (disch := omega) only [f_X12_claimAt_30, p_X12_claimAt_30, f_X12_claimAt_17, p_X12_claimAt_17, f_X12_claimAt_0, p_X12_claimAt_0, f_X12_claimAt, p_X12_claimAt, li_0, li_1, cl_n, u0, hI, P_X12_in, F_checked, P_checked, le10, n10, if_true, if_false, reduceIte, not_false_eq_true, not_true_eq_false, false_implies, true_implies, implies_true, and_self]
      rw [hm.2]
      exact ⟨hm.1, thr_Th u _⟩
  | true =>
    obtain ⟨k, hk, rfl⟩ := inx_n (by omega) hx
    have hF : f_X11_checkedIndex (nI k) (nI nc) v = Sum.inl (nI k) := by rw [hF, hx]; rfl
    have hf : f_X11_claimAt (nI k) v = Sum.inl (v.1 560 (72 + 12 * k + 0)) := by
      simp (disch := omega) only [f_X11_claimAt_24, f_X11_claimAt_0, f_X11_claimAt, s1, hF, el_l, cl_n]
      exact congrArg Sum.inl (h.2.2.2.2.2.2.2.2.2.1 k hk).1
    refine ⟨?_, Sc.refl v, nI 0, fun h => absurd rfl h, fun _ => ⟨_, trivial, hf, fun u hu => ?_⟩⟩
    · simp (disch := omega) only [p_X11_claimAt_24, p_X11_claimAt_0, p_X11_claimAt, s1, hP, hF, vi_n, reduceCtorEq, Sum.inl.injEq, forall_eq', el_l, el_r, true_and, and_true, true_implies, false_implies, implies_true, and_self]
    · have hI : f_X12_in (nI k) (nI 0) (nI nc - nI 1) u = nI 1 := by rw [F_X12_in, inb_inx (by omega), hx]; rfl
      have u0 : u.1 560 1 = nI nc := by rw [hu]; exact hw.2.1
      have hm : p_X12_claimAt (nI k) u ∧ f_X12_claimAt (nI k) u = (v.1 560 (72 + 12 * k + 0), thr u (nI 0)) := by
        simp (disch := omega) only [f_X12_claimAt_30, p_X12_claimAt_30, f_X12_claimAt_17, p_X12_claimAt_17, f_X12_claimAt_0, p_X12_claimAt_0, f_X12_claimAt, p_X12_claimAt, li_0, li_1, cl_n, u0, hI, P_X12_in, F_checked, P_checked, F_X12_c, P_X12_c, thr_560, hu, le00, n10, if_true, if_false, reduceIte, not_false_eq_true, not_true_eq_false, false_implies, true_implies, implies_true, and_self]
      rw [hm.2]
      exact ⟨hm.1, rfl, thr_Th u _⟩
theorem R_startOf (x : Int32) {B : Nat} : Rd (fun v => (f_X11_startOf x v, v)) (p_X11_startOf x) (f_X12_startOf x) (p_X12_startOf x) eI oy1 (any Int32) B := by
  intro v np nc nt no h
  have hw := h.1
  have n5 : nt ≤ 4 := hw.2.2.2.2.2.2.1
  have s1 : v.1 (1 + 30) 6 = nI nt := h.2.2.2.2.2.2.2.1.2.2.2.2.1
  have hF := F_X11_checkedIndex x (nI nt) v
  have hP := P_X11_checkedIndex x (nI nt) v
  cases hx : inx x (nI nt) with
  | false =>
    have hF : f_X11_checkedIndex x (nI nt) v = Sum.inr "java/lang/IndexOutOfBoundsException" := by rw [hF, hx]; rfl
    have hf : f_X11_startOf x v = Sum.inr "java/lang/IndexOutOfBoundsException" := by simp only [f_X11_startOf_24, f_X11_startOf_0, f_X11_startOf, s1, hF, el_r]
    refine ⟨?_, Sc.refl v, nI 1, fun _ => ⟨rfl, hf, fun u hu => ?_⟩, fun h => absurd h n10⟩
    · simp only [p_X11_startOf_24, p_X11_startOf_0, p_X11_startOf, s1, hP, hF, reduceCtorEq, Sum.inl.injEq, forall_eq', el_l, el_r, true_and, and_true, true_implies, false_implies, implies_true, and_self]
    · have u0 : u.1 560 2 = nI nt := by rw [hu]; exact hw.2.2.1
      have hI : f_X12_isTreaty x u = nI 0 := by rw [F_X12_isTreaty x u u0 n5, hx]; rfl
      have hm : p_X12_startOf x u ∧ f_X12_startOf x u = (nI 0, thr u (nI 1)) := by
        simp only [f_X12_startOf_22, p_X12_startOf_22, f_X12_startOf_9, p_X12_startOf_9, f_X12_startOf_0, p_X12_startOf_0, f_X12_startOf, p_X12_startOf, li_0, li_1, hI, P_X12_isTreaty, F_checked, P_checked, le10, n10, if_true, if_false, reduceIte, not_false_eq_true, not_true_eq_false, false_implies, true_implies, implies_true, and_self]
      rw [hm.2]
      exact ⟨hm.1, thr_Th u _⟩
  | true =>
    obtain ⟨k, hk, rfl⟩ := inx_n (by omega) hx
    have hF : f_X11_checkedIndex (nI k) (nI nt) v = Sum.inl (nI k) := by rw [hF, hx]; rfl
    have hf : f_X11_startOf (nI k) v = Sum.inl (v.1 560 (216 + 4 * k + 0)) := by
      simp (disch := omega) only [f_X11_startOf_24, f_X11_startOf_0, f_X11_startOf, s1, hF, el_l, cl_n]
      exact congrArg Sum.inl (h.2.2.2.2.2.2.2.2.2.2.1 k hk).1
    refine ⟨?_, Sc.refl v, nI 0, fun h => absurd rfl h, fun _ => ⟨_, trivial, hf, fun u hu => ?_⟩⟩
    · simp (disch := omega) only [p_X11_startOf_24, p_X11_startOf_0, p_X11_startOf, s1, hP, hF, vi_n, reduceCtorEq, Sum.inl.injEq, forall_eq', el_l, el_r, true_and, and_true, true_implies, false_implies, implies_true, and_self]
    · have u0 : u.1 560 2 = nI nt := by rw [hu]; exact hw.2.2.1
      have hI : f_X12_isTreaty (nI k) u = nI 1 := by rw [F_X12_isTreaty _ u u0 n5, hx]; rfl
      have hm : p_X12_startOf (nI k) u ∧ f_X12_startOf (nI k) u = (v.1 560 (216 + 4 * k + 0), thr u (nI 0)) := by
        simp (disch := omega) only [f_X12_startOf_22, p_X12_startOf_22, f_X12_startOf_9, p_X12_startOf_9, f_X12_startOf_0, p_X12_startOf_0, f_X12_startOf, p_X12_startOf, li_0, li_1, li_2, hI, P_X12_isTreaty, F_checked, P_checked, F_X12_t, P_X12_t, thr_560, hu, le00, n10, if_true, if_false, reduceIte, not_false_eq_true, not_true_eq_false, false_implies, true_implies, implies_true, and_self]
      rw [hm.2]
      exact ⟨hm.1, rfl, thr_Th u _⟩
theorem R_capacityOf (x : Int32) {B : Nat} : Rd (fun v => (f_X11_capacityOf x v, v)) (p_X11_capacityOf x) (f_X12_capacityOf x) (p_X12_capacityOf x) eI oy1 (any Int32) B := by
  intro v np nc nt no h
  have hw := h.1
  have n5 : nt ≤ 4 := hw.2.2.2.2.2.2.1
  have s1 : v.1 (1 + 30) 6 = nI nt := h.2.2.2.2.2.2.2.1.2.2.2.2.1
  have hF := F_X11_checkedIndex x (nI nt) v
  have hP := P_X11_checkedIndex x (nI nt) v
  cases hx : inx x (nI nt) with
  | false =>
    have hF : f_X11_checkedIndex x (nI nt) v = Sum.inr "java/lang/IndexOutOfBoundsException" := by rw [hF, hx]; rfl
    have hf : f_X11_capacityOf x v = Sum.inr "java/lang/IndexOutOfBoundsException" := by simp only [f_X11_capacityOf_24, f_X11_capacityOf_0, f_X11_capacityOf, s1, hF, el_r]
    refine ⟨?_, Sc.refl v, nI 1, fun _ => ⟨rfl, hf, fun u hu => ?_⟩, fun h => absurd h n10⟩
    · simp only [p_X11_capacityOf_24, p_X11_capacityOf_0, p_X11_capacityOf, s1, hP, hF, reduceCtorEq, Sum.inl.injEq, forall_eq', el_l, el_r, true_and, and_true, true_implies, false_implies, implies_true, and_self]
    · have u0 : u.1 560 2 = nI nt := by rw [hu]; exact hw.2.2.1
      have hI : f_X12_isTreaty x u = nI 0 := by rw [F_X12_isTreaty x u u0 n5, hx]; rfl
      have hm : p_X12_capacityOf x u ∧ f_X12_capacityOf x u = (nI 0, thr u (nI 1)) := by
        simp only [f_X12_capacityOf_22, p_X12_capacityOf_22, f_X12_capacityOf_9, p_X12_capacityOf_9, f_X12_capacityOf_0, p_X12_capacityOf_0, f_X12_capacityOf, p_X12_capacityOf, li_0, li_1, hI, P_X12_isTreaty, F_checked, P_checked, le10, n10, if_true, if_false, reduceIte, not_false_eq_true, not_true_eq_false, false_implies, true_implies, implies_true, and_self]
      rw [hm.2]
      exact ⟨hm.1, thr_Th u _⟩
  | true =>
    obtain ⟨k, hk, rfl⟩ := inx_n (by omega) hx
    have hF : f_X11_checkedIndex (nI k) (nI nt) v = Sum.inl (nI k) := by rw [hF, hx]; rfl
    have hf : f_X11_capacityOf (nI k) v = Sum.inl (v.1 560 (216 + 4 * k + 2)) := by
      simp (disch := omega) only [f_X11_capacityOf_24, f_X11_capacityOf_0, f_X11_capacityOf, s1, hF, el_l, cl_n]
      exact congrArg Sum.inl (h.2.2.2.2.2.2.2.2.2.2.1 k hk).2.2
    refine ⟨?_, Sc.refl v, nI 0, fun h => absurd rfl h, fun _ => ⟨_, trivial, hf, fun u hu => ?_⟩⟩
    · simp (disch := omega) only [p_X11_capacityOf_24, p_X11_capacityOf_0, p_X11_capacityOf, s1, hP, hF, vi_n, reduceCtorEq, Sum.inl.injEq, forall_eq', el_l, el_r, true_and, and_true, true_implies, false_implies, implies_true, and_self]
    · have u0 : u.1 560 2 = nI nt := by rw [hu]; exact hw.2.2.1
      have hI : f_X12_isTreaty (nI k) u = nI 1 := by rw [F_X12_isTreaty _ u u0 n5, hx]; rfl
      have hm : p_X12_capacityOf (nI k) u ∧ f_X12_capacityOf (nI k) u = (v.1 560 (216 + 4 * k + 2), thr u (nI 0)) := by
        simp (disch := omega) only [f_X12_capacityOf_22, p_X12_capacityOf_22, f_X12_capacityOf_9, p_X12_capacityOf_9, f_X12_capacityOf_0, p_X12_capacityOf_0, f_X12_capacityOf, p_X12_capacityOf, li_0, li_1, li_2, hI, P_X12_isTreaty, F_checked, P_checked, F_X12_t, P_X12_t, thr_560, hu, le00, n10, if_true, if_false, reduceIte, not_false_eq_true, not_true_eq_false, false_implies, true_implies, implies_true, and_self]
      rw [hm.2]
      exact ⟨hm.1, rfl, thr_Th u _⟩
def eB (y : Int32) : String := if y = nI 1 then "java/util/NoSuchElementException" else "java/lang/IndexOutOfBoundsException"
theorem R_borneBy (x y : Int32) {B : Nat} : Rd (fun v => (f_X11_borneBy x y v, v)) (p_X11_borneBy x y) (f_X12_borneBy x y) (p_X12_borneBy x y) eB oy2 (any Int32) B := by
  intro v np nc nt no h
  have hw := h.1
  have n6 := hw.2.2.2.2.2.1
  have n7 := hw.2.2.2.2.2.2.1
  have bc := h.2.2.2.2.2.2.2.2.2.1
  have s1 : v.1 (1 + 30) 6 = nI nt := h.2.2.2.2.2.2.2.1.2.2.2.2.1
  obtain ⟨pp, pf⟩ := F_placeOf_C n6 h.2.2.2.2.2.2.2.1 bc x
  have hF := F_X11_checkedIndex y (nI nt) v
  have hP := P_X11_checkedIndex y (nI nt) v
  have hmC : ∀ u : gV, u.1 560 = v.1 560 → p_X12_claim x u ∧ f_X12_claim x u = oN (clm (v.1 560) nc x) := fun u hu => by
    have q := F_X12_claim x u (n := nc) (by rw [hu]; exact hw.2.1) n6
    rw [hu] at q
    exact ⟨P_X12_claim x u (n := nc) (by rw [hu]; exact hw.2.1) n6, q⟩
  have hmT : ∀ u : gV, u.1 560 = v.1 560 → p_X12_isTreaty y u ∧ f_X12_isTreaty y u = if inx y (nI nt) = true then nI 1 else nI 0 := fun u hu => ⟨P_X12_isTreaty y u, F_X12_isTreaty y u (by rw [hu]; exact hw.2.2.1) n7⟩
  cases e : clm (v.1 560) nc x with
  | none =>
    rw [e] at pf
    have pf : f_X6_placeOf_C 1 x v = Sum.inr "java/util/NoSuchElementException" := pf
    have hf : f_X11_borneBy x y v = Sum.inr "java/util/NoSuchElementException" := by simp only [f_X11_borneBy_38, f_X11_borneBy_11, f_X11_borneBy_0, f_X11_borneBy, pf, el_r]
    refine ⟨?_, Sc.refl v, nI 1, fun _ => ⟨Or.inl rfl, hf, fun u hu => ?_⟩, fun h => absurd h n10⟩
    · simp only [p_X11_borneBy_38, p_X11_borneBy_11, p_X11_borneBy_0, p_X11_borneBy, pp, pf, reduceCtorEq, Sum.inl.injEq, forall_eq', el_l, el_r, true_and, and_true, true_implies, false_implies, implies_true, and_self]
    · obtain ⟨q1, q2⟩ := hmC u hu
      rw [e] at q2
      have hm : p_X12_borneBy x y u ∧ f_X12_borneBy x y u = (nI 0, thr u (nI 1)) := by
        simp only [f_X12_borneBy_53, p_X12_borneBy_53, f_X12_borneBy_29, p_X12_borneBy_29, f_X12_borneBy_26, p_X12_borneBy_26, f_X12_borneBy_0, p_X12_borneBy_0, f_X12_borneBy, p_X12_borneBy, q1, q2, oN_n0, li_0, li_1, vM_thr, thr_6, le10, if_true, if_false, not_false_eq_true, false_implies, implies_true, and_self]
      rw [hm.2]
      exact ⟨hm.1, thr_Th u _⟩
  | some k =>
    rw [e] at pf
    have hk := clm_lt e
    have pf : f_X6_placeOf_C 1 x v = Sum.inl (nI k) := pf
    have hle : nI 0 ≤ nI k := oN_le (by omega)
    cases hx : inx y (nI nt) with
    | false =>
      have hF : f_X11_checkedIndex y (nI nt) v = Sum.inr "java/lang/IndexOutOfBoundsException" := by rw [hF, hx]; rfl
      have hf : f_X11_borneBy x y v = Sum.inr "java/lang/IndexOutOfBoundsException" := by simp only [f_X11_borneBy_38, f_X11_borneBy_11, f_X11_borneBy_0, f_X11_borneBy, pf, s1, hF, el_l, el_r]
      have n20 : ¬ nI 2 = nI 0 := by decide +kernel
      refine ⟨?_, Sc.refl v, nI 2, fun _ => ⟨Or.inr rfl, hf, fun u hu => ?_⟩, fun h => absurd h n20⟩
      · simp (disch := omega) only [p_X11_borneBy_38, p_X11_borneBy_11, p_X11_borneBy_0, p_X11_borneBy, pp, pf, s1, hP, hF, vi_n, reduceCtorEq, Sum.inl.injEq, forall_eq', el_l, el_r, true_and, and_true, true_implies, false_implies, implies_true, and_self]
      · obtain ⟨q1, q2⟩ := hmC u hu
        obtain ⟨q3, q4⟩ := hmT u hu
        rw [e, oN_s] at q2
        rw [hx, if_neg Bool.false_ne_true] at q4
        have hm : p_X12_borneBy x y u ∧ f_X12_borneBy x y u = (nI 0, thr u (nI 2)) := by
          simp only [f_X12_borneBy_53, p_X12_borneBy_53, f_X12_borneBy_29, p_X12_borneBy_29, f_X12_borneBy_26, p_X12_borneBy_26, f_X12_borneBy_0, p_X12_borneBy_0, f_X12_borneBy, p_X12_borneBy, q1, q2, q3, q4, hle, li_0, li_1, li_2, vM_thr, thr_6, le20, if_true, if_false, reduceIte, not_true_eq_false, not_false_eq_true, true_implies, false_implies, implies_true, and_self]
        rw [hm.2]
        exact ⟨hm.1, thr_Th u _⟩
    | true =>
      obtain ⟨t, ht, rfl⟩ := inx_n (by omega) hx
      have hF : f_X11_checkedIndex (nI t) (nI nt) v = Sum.inl (nI t) := by rw [hF, hx]; rfl
      have hf : f_X11_borneBy x (nI t) v = Sum.inl (v.1 560 (72 + 12 * k + (6 + t))) := by
        simp (disch := omega) only [f_X11_borneBy_38, f_X11_borneBy_11, f_X11_borneBy_0, f_X11_borneBy, pf, s1, hF, el_l, cl_n]
        rw [show 1 + 17 + 1 + k = 1 + 18 + k by omega]
        exact congrArg Sum.inl ((bc k hk).2.2.2.2.2.2 t (by omega))
      refine ⟨?_, Sc.refl v, nI 0, fun h => absurd rfl h, fun _ => ⟨_, trivial, hf, fun u hu => ?_⟩⟩
      · simp (disch := omega) only [p_X11_borneBy_38, p_X11_borneBy_11, p_X11_borneBy_0, p_X11_borneBy, pp, pf, s1, hP, hF, vi_n, reduceCtorEq, Sum.inl.injEq, forall_eq', el_l, el_r, true_and, and_true, true_implies, false_implies, implies_true, and_self]
      · obtain ⟨q1, q2⟩ := hmC u hu
        obtain ⟨q3, q4⟩ := hmT u hu
        obtain ⟨q5, q6⟩ := hmC (thr u (nI 0)) (by rw [thr_560]; exact hu)
        rw [e, oN_s] at q2 q6
        rw [hx, if_pos rfl] at q4
        have hm : p_X12_borneBy x (nI t) u ∧ f_X12_borneBy x (nI t) u = (v.1 560 (72 + 12 * k + (6 + t)), thr u (nI 0)) := by
          simp (disch := omega) only [f_X12_borneBy_53, p_X12_borneBy_53, f_X12_borneBy_29, p_X12_borneBy_29, f_X12_borneBy_26, p_X12_borneBy_26, f_X12_borneBy_0, p_X12_borneBy_0, f_X12_borneBy, p_X12_borneBy, q1, q2, q3, q4, q5, q6, hle, n10, li_0, li_1, li_2, li_6, nI_add, vM_thr, thr_6, le00, F_X12_c, P_X12_c, thr_560, hu, if_true, if_false, reduceIte, not_true_eq_false, not_false_eq_true, true_implies, false_implies, implies_true, and_self]
        rw [hm.2]
        exact ⟨hm.1, rfl, thr_Th u _⟩
theorem inb_n {x : Int32} {n : Nat} (hn : n < 2147483648) (h : inb x (nI 0) (nI n) = true) : ∃ k, k ≤ n ∧ x = nI k := by
  rw [inb_t, tI hn, tI (by omega)] at h
  obtain ⟨k, h1, h2⟩ := nI_ofI (m := n + 1) h.1 (by omega)
  exact ⟨k, by omega, h2⟩
theorem R_paidIn (x y : Int32) {B : Nat} : Rd (fun v => (f_X11_paidIn x y v, v)) (p_X11_paidIn x y) (f_X12_paidIn x y) (p_X12_paidIn x y) eA oy1 (any Int32) B := by
  intro v np nc nt no h
  have be := h.2.2.2.2.2.2.2.2.2.2.2.1
  have hF := F_X11_checkedNumber x (nI 0) (nI 5) v
  have hP := P_X11_checkedNumber x (nI 0) (nI 5) v
  have hF2 := F_X11_checkedNumber y (nI 0) (nI 5) v
  have hP2 := P_X11_checkedNumber y (nI 0) (nI 5) v
  cases hx : inb x (nI 0) (nI 5) with
  | false =>
    have hF : f_X11_checkedNumber x (nI 0) (nI 5) v = Sum.inr "java/lang/IllegalArgumentException" := by rw [hF, hx]; rfl
    have hf : f_X11_paidIn x y v = Sum.inr "java/lang/IllegalArgumentException" := by simp only [f_X11_paidIn_25, f_X11_paidIn_6, f_X11_paidIn_0, f_X11_paidIn, li_0, li_5, hF, el_r]
    refine ⟨?_, Sc.refl v, nI 1, fun _ => ⟨rfl, hf, fun u hu => ?_⟩, fun h => absurd h n10⟩
    · simp only [p_X11_paidIn_25, p_X11_paidIn_6, p_X11_paidIn_0, p_X11_paidIn, li_0, li_5, hP, hF, reduceCtorEq, Sum.inl.injEq, forall_eq', el_l, el_r, true_and, and_true, true_implies, false_implies, implies_true, and_self]
    · have hI : f_X12_in x (nI 0) (nI 5) u = nI 0 := by rw [F_X12_in, hx]; rfl
      have hm : p_X12_paidIn x y u ∧ f_X12_paidIn x y u = (nI 0, thr u (nI 1)) := by
        simp only [f_X12_paidIn_40, p_X12_paidIn_40, f_X12_paidIn_27, p_X12_paidIn_27, f_X12_paidIn_24, p_X12_paidIn_24, f_X12_paidIn_23, p_X12_paidIn_23, f_X12_paidIn_0, p_X12_paidIn_0, f_X12_paidIn, p_X12_paidIn, li_0, li_1, li_5, hI, P_X12_in, F_checked, P_checked, le10, n10, if_true, if_false, reduceIte, not_false_eq_true, not_true_eq_false, false_implies, true_implies, implies_true, and_self]
      rw [hm.2]
      exact ⟨hm.1, thr_Th u _⟩
  | true =>
    obtain ⟨a, ha, rfl⟩ := inb_n (by omega) hx
    have hF : f_X11_checkedNumber (nI a) (nI 0) (nI 5) v = Sum.inl (nI a) := by rw [hF, hx]; rfl
    cases hy : inb y (nI 0) (nI 5) with
    | false =>
      have hF2 : f_X11_checkedNumber y (nI 0) (nI 5) v = Sum.inr "java/lang/IllegalArgumentException" := by rw [hF2, hy]; rfl
      have hf : f_X11_paidIn (nI a) y v = Sum.inr "java/lang/IllegalArgumentException" := by simp only [f_X11_paidIn_25, f_X11_paidIn_6, f_X11_paidIn_0, f_X11_paidIn, li_0, li_5, hF, hF2, el_l, el_r]
      refine ⟨?_, Sc.refl v, nI 1, fun _ => ⟨rfl, hf, fun u hu => ?_⟩, fun h => absurd h n10⟩
      · simp (disch := omega) only [p_X11_paidIn_25, p_X11_paidIn_6, p_X11_paidIn_0, p_X11_paidIn, li_0, li_5, hP, hP2, hF, hF2, vi_n, reduceCtorEq, Sum.inl.injEq, forall_eq', el_l, el_r, true_and, and_true, true_implies, false_implies, implies_true, and_self]
      · have hI : f_X12_in (nI a) (nI 0) (nI 5) u = nI 1 := by rw [F_X12_in, hx]; rfl
        have hI2 : f_X12_in y (nI 0) (nI 5) u = nI 0 := by rw [F_X12_in, hy]; rfl
        have hm : p_X12_paidIn (nI a) y u ∧ f_X12_paidIn (nI a) y u = (nI 0, thr u (nI 1)) := by
          simp only [f_X12_paidIn_40, p_X12_paidIn_40, f_X12_paidIn_27, p_X12_paidIn_27, f_X12_paidIn_24, p_X12_paidIn_24, f_X12_paidIn_23, p_X12_paidIn_23, f_X12_paidIn_0, p_X12_paidIn_0, f_X12_paidIn, p_X12_paidIn, li_0, li_1, li_5, hI, hI2, P_X12_in, F_checked, P_checked, le10, n10, if_true, if_false, reduceIte, not_false_eq_true, not_true_eq_false, false_implies, true_implies, implies_true, and_self]
        rw [hm.2]
        exact ⟨hm.1, thr_Th u _⟩
    | true =>
      obtain ⟨d, hd, rfl⟩ := inb_n (by omega) hy
      have hF2 : f_X11_checkedNumber (nI d) (nI 0) (nI 5) v = Sum.inl (nI d) := by rw [hF2, hy]; rfl
      have hf : f_X11_paidIn (nI a) (nI d) v = Sum.inl (v.1 560 (264 + 6 * a + d)) := by
        simp (disch := omega) only [f_X11_paidIn_25, f_X11_paidIn_6, f_X11_paidIn_0, f_X11_paidIn, li_0, li_5, hF, hF2, el_l, cl_n]
        rw [show 1 + 38 + 1 + a = 1 + 39 + a by omega]
        exact congrArg Sum.inl (be a d (by omega) (by omega))
      refine ⟨?_, Sc.refl v, nI 0, fun h => absurd rfl h, fun _ => ⟨_, trivial, hf, fun u hu => ?_⟩⟩
      · simp (disch := omega) only [p_X11_paidIn_25, p_X11_paidIn_6, p_X11_paidIn_0, p_X11_paidIn, li_0, li_5, hP, hP2, hF, hF2, vi_n, reduceCtorEq, Sum.inl.injEq, forall_eq', el_l, el_r, true_and, and_true, true_implies, false_implies, implies_true, and_self]
      · have hI : f_X12_in (nI a) (nI 0) (nI 5) u = nI 1 := by rw [F_X12_in, hx]; rfl
        have hI2 : f_X12_in (nI d) (nI 0) (nI 5) u = nI 1 := by rw [F_X12_in, hy]; rfl
        have hm : p_X12_paidIn (nI a) (nI d) u ∧ f_X12_paidIn (nI a) (nI d) u = (v.1 560 (264 + 6 * a + d), thr u (nI 0)) := by
          simp (disch := omega) only [f_X12_paidIn_40, p_X12_paidIn_40, f_X12_paidIn_27, p_X12_paidIn_27, f_X12_paidIn_24, p_X12_paidIn_24, f_X12_paidIn_23, p_X12_paidIn_23, f_X12_paidIn_0, p_X12_paidIn_0, f_X12_paidIn, p_X12_paidIn, li_0, li_1, li_5, hI, hI2, P_X12_in, F_checked, P_checked, F_X12_cell, P_X12_cell, thr_560, hu, le00, n10, if_true, if_false, reduceIte, not_false_eq_true, not_true_eq_false, false_implies, true_implies, implies_true, and_self]
        rw [hm.2]
        exact ⟨hm.1, rfl, thr_Th u _⟩
/-! numbers of things, plainly -/
def Pl {α : Type} (cf : gV → α) (cp : gV → Prop) (fM : gV → α × gV) (pM : gV → Prop) (B : Nat) : Prop := ∀ (v : gV) (np nc nt no : Nat), BR B v 1 (v.1 560) np nc nt no → cp v ∧ pM v ∧ fM v = (cf v, thr v (nI 0))
theorem R_day {B : Nat} : Pl f_X11_day p_X11_day f_X12_day p_X12_day B := by
  intro v np nc nt no h
  have s := h.2.2.2.2.2.2.2.1.2.2.2.2.2.2.1
  have e : v.1 1 5 = v.1 560 6 := s
  refine ⟨?_, ?_, ?_⟩
  · simp only [p_X11_day_0, p_X11_day]
  · simp only [p_X12_day_11, p_X12_day_0, p_X12_day, P_plain, and_self]
  · simp (disch := omega) only [f_X11_day_0, f_X11_day, f_X12_day_11, f_X12_day_0, f_X12_day, F_plain, e, li_0, li_1, li_2, li_3, li_4, li_5, li_6, li_7, li_8, li_9, li_10, li_11, li_12, li_29, li_30, li_32, li_33, li_35, li_42, li_43, li_45, li_47, li_48, li_50, li_57, li_58, li_59, li_60, li_61, li_63, li_64, li_67, li_68, li_72, li_78, li_79, li_80, li_97, li_99, li_100, li_101, li_102, li_103, li_105, li_108, li_109, li_110, li_111, li_112, li_114, li_115, li_116, li_117, li_118, li_119, li_120, li_121, li_126, li_216, li_232, li_240, li_264, li_300, li_1000, li_1000000, li_2147483647, cl_n]
theorem R_cash {B : Nat} : Pl f_X11_cash p_X11_cash f_X12_cash p_X12_cash B := by
  intro v np nc nt no h
  have s := h.2.2.2.2.2.2.2.1.2.2.2.2.2.2.2
  have e : v.1 1 6 = v.1 560 7 := s
  refine ⟨?_, ?_, ?_⟩
  · simp only [p_X11_cash_0, p_X11_cash]
  · simp only [p_X12_cash_11, p_X12_cash_0, p_X12_cash, P_plain, and_self]
  · simp (disch := omega) only [f_X11_cash_0, f_X11_cash, f_X12_cash_11, f_X12_cash_0, f_X12_cash, F_plain, e, li_0, li_1, li_2, li_3, li_4, li_5, li_6, li_7, li_8, li_9, li_10, li_11, li_12, li_29, li_30, li_32, li_33, li_35, li_42, li_43, li_45, li_47, li_48, li_50, li_57, li_58, li_59, li_60, li_61, li_63, li_64, li_67, li_68, li_72, li_78, li_79, li_80, li_97, li_99, li_100, li_101, li_102, li_103, li_105, li_108, li_109, li_110, li_111, li_112, li_114, li_115, li_116, li_117, li_118, li_119, li_120, li_121, li_126, li_216, li_232, li_240, li_264, li_300, li_1000, li_1000000, li_2147483647, cl_n]
theorem R_policyCount {B : Nat} : Pl f_X11_policyCount p_X11_policyCount f_X12_policyCount p_X12_policyCount B := by
  intro v np nc nt no h
  have s := h.2.2.2.2.2.2.2.1.1
  have e : v.1 (1 + 1) 1 = v.1 560 0 := s.trans h.1.1.symm
  refine ⟨?_, ?_, ?_⟩
  · simp only [p_X11_policyCount_0, p_X11_policyCount]
  · simp only [p_X12_policyCount_10, p_X12_policyCount_0, p_X12_policyCount, P_plain, and_self]
  · simp (disch := omega) only [f_X11_policyCount_0, f_X11_policyCount, f_X12_policyCount_10, f_X12_policyCount_0, f_X12_policyCount, F_plain, e, li_0, li_1, li_2, li_3, li_4, li_5, li_6, li_7, li_8, li_9, li_10, li_11, li_12, li_29, li_30, li_32, li_33, li_35, li_42, li_43, li_45, li_47, li_48, li_50, li_57, li_58, li_59, li_60, li_61, li_63, li_64, li_67, li_68, li_72, li_78, li_79, li_80, li_97, li_99, li_100, li_101, li_102, li_103, li_105, li_108, li_109, li_110, li_111, li_112, li_114, li_115, li_116, li_117, li_118, li_119, li_120, li_121, li_126, li_216, li_232, li_240, li_264, li_300, li_1000, li_1000000, li_2147483647, cl_n]
theorem R_claimCount {B : Nat} : Pl f_X11_claimCount p_X11_claimCount f_X12_claimCount p_X12_claimCount B := by
  intro v np nc nt no h
  have s := h.2.2.2.2.2.2.2.1.2.2.1
  have e : v.1 (1 + 10) 1 = v.1 560 1 := s.trans h.1.2.1.symm
  refine ⟨?_, ?_, ?_⟩
  · simp only [p_X11_claimCount_0, p_X11_claimCount]
  · simp only [p_X12_claimCount_10, p_X12_claimCount_0, p_X12_claimCount, P_plain, and_self]
  · simp (disch := omega) only [f_X11_claimCount_0, f_X11_claimCount, f_X12_claimCount_10, f_X12_claimCount_0, f_X12_claimCount, F_plain, e, li_0, li_1, li_2, li_3, li_4, li_5, li_6, li_7, li_8, li_9, li_10, li_11, li_12, li_29, li_30, li_32, li_33, li_35, li_42, li_43, li_45, li_47, li_48, li_50, li_57, li_58, li_59, li_60, li_61, li_63, li_64, li_67, li_68, li_72, li_78, li_79, li_80, li_97, li_99, li_100, li_101, li_102, li_103, li_105, li_108, li_109, li_110, li_111, li_112, li_114, li_115, li_116, li_117, li_118, li_119, li_120, li_121, li_126, li_216, li_232, li_240, li_264, li_300, li_1000, li_1000000, li_2147483647, cl_n]
theorem R_treatyCount {B : Nat} : Pl f_X11_treatyCount p_X11_treatyCount f_X12_treatyCount p_X12_treatyCount B := by
  intro v np nc nt no h
  have s := h.2.2.2.2.2.2.2.1.2.2.2.2.1
  have e : v.1 (1 + 30) 6 = v.1 560 2 := s.trans h.1.2.2.1.symm
  refine ⟨?_, ?_, ?_⟩
  · simp only [p_X11_treatyCount_0, p_X11_treatyCount]
  · simp only [p_X12_treatyCount_10, p_X12_treatyCount_0, p_X12_treatyCount, P_plain, and_self]
  · simp (disch := omega) only [f_X11_treatyCount_0, f_X11_treatyCount, f_X12_treatyCount_10, f_X12_treatyCount_0, f_X12_treatyCount, F_plain, e, li_0, li_1, li_2, li_3, li_4, li_5, li_6, li_7, li_8, li_9, li_10, li_11, li_12, li_29, li_30, li_32, li_33, li_35, li_42, li_43, li_45, li_47, li_48, li_50, li_57, li_58, li_59, li_60, li_61, li_63, li_64, li_67, li_68, li_72, li_78, li_79, li_80, li_97, li_99, li_100, li_101, li_102, li_103, li_105, li_108, li_109, li_110, li_111, li_112, li_114, li_115, li_116, li_117, li_118, li_119, li_120, li_121, li_126, li_216, li_232, li_240, li_264, li_300, li_1000, li_1000000, li_2147483647, cl_n]
theorem R_offerCount {B : Nat} : Pl f_X11_offerCount p_X11_offerCount f_X12_offerCount p_X12_offerCount B := by
  intro v np nc nt no h
  have s := h.2.2.2.2.2.2.2.1.2.2.2.2.2.1
  have e : v.1 (1 + 45) 4 = v.1 560 3 := s.trans h.1.2.2.2.1.symm
  refine ⟨?_, ?_, ?_⟩
  · simp only [p_X11_offerCount_0, p_X11_offerCount]
  · simp only [p_X12_offerCount_10, p_X12_offerCount_0, p_X12_offerCount, P_plain, and_self]
  · simp (disch := omega) only [f_X11_offerCount_0, f_X11_offerCount, f_X12_offerCount_10, f_X12_offerCount_0, f_X12_offerCount, F_plain, e, li_0, li_1, li_2, li_3, li_4, li_5, li_6, li_7, li_8, li_9, li_10, li_11, li_12, li_29, li_30, li_32, li_33, li_35, li_42, li_43, li_45, li_47, li_48, li_50, li_57, li_58, li_59, li_60, li_61, li_63, li_64, li_67, li_68, li_72, li_78, li_79, li_80, li_97, li_99, li_100, li_101, li_102, li_103, li_105, li_108, li_109, li_110, li_111, li_112, li_114, li_115, li_116, li_117, li_118, li_119, li_120, li_121, li_126, li_216, li_232, li_240, li_264, li_300, li_1000, li_1000000, li_2147483647, cl_n]
theorem per_n {d : Int32} (h : 0 ≤ d.toInt) : ∃ s, s ≤ 5 ∧ (if d / nI 10 ≤ nI 5 then d / nI 10 else nI 5) = nI s ∧ (if nI 5 < d / nI 10 then nI 5 else d / nI 10) = nI s := by
  obtain ⟨s, h1, h2, h3⟩ := per_b h
  rw [h1]
  by_cases hs : s ≤ 5
  · exact ⟨s, hs, if_pos (nI_le (by omega) (by omega)), if_neg (by rw [lt_n (by omega) (by omega)]; omega)⟩
  · exact ⟨5, by omega, if_neg (nI_ge (by omega) (by omega)), if_pos (by rw [lt_n (by omega) (by omega)]; omega)⟩
/-- the latest period -/
def lat (w : Nat → Int32) : Int32 := if w 6 / nI 10 ≤ nI 5 then w 6 / nI 10 else nI 5
theorem lat_n {B : Nat} {w : Nat → Int32} (hs : WFs B w) : ∃ s, s ≤ 5 ∧ lat w = nI s := by
  obtain ⟨s, h1, h2, -⟩ := per_n hs.2.2.2.2.1
  exact ⟨s, h1, h2⟩
theorem F_X12_latest (u : gV) : f_X12_latest u = lat (u.1 560) := by
  simp (disch := omega) only [f_X12_latest_28, f_X12_latest_0, f_X12_latest, li_0, li_1, li_2, li_3, li_4, li_5, li_6, li_7, li_8, li_9, li_10, li_11, li_12, li_29, li_30, li_32, li_33, li_35, li_42, li_43, li_45, li_47, li_48, li_50, li_57, li_58, li_59, li_60, li_61, li_63, li_64, li_67, li_68, li_72, li_78, li_79, li_80, li_97, li_99, li_100, li_101, li_102, li_103, li_105, li_108, li_109, li_110, li_111, li_112, li_114, li_115, li_116, li_117, li_118, li_119, li_120, li_121, li_126, li_216, li_232, li_240, li_264, li_300, li_1000, li_1000000, li_2147483647, cl_n, lat]
theorem P_X12_latest (u : gV) : p_X12_latest u := by
  simp only [p_X12_latest_28, p_X12_latest_0, p_X12_latest, implies_true, and_self]
theorem F_X1_latest {v : gV} {w : Nat → Int32} {B : Nat} (hs : WFs B w) (h : v.1 1 5 = w 6) : f_X1_latestPeriod 1 v = lat w := by
  obtain ⟨s, h1, h2, h3⟩ := per_n hs.2.2.2.2.1
  simp only [f_X1_latestPeriod_0, f_X1_latestPeriod, li_0, li_1, li_2, li_3, li_4, li_5, li_6, li_7, li_8, li_9, li_10, li_11, li_12, li_29, li_30, li_32, li_33, li_35, li_42, li_43, li_45, li_47, li_48, li_50, li_57, li_58, li_59, li_60, li_61, li_63, li_64, li_67, li_68, li_72, li_78, li_79, li_80, li_97, li_99, li_100, li_101, li_102, li_103, li_105, li_108, li_109, li_110, li_111, li_112, li_114, li_115, li_116, li_117, li_118, li_119, li_120, li_121, li_126, li_216, li_232, li_240, li_264, li_300, li_1000, li_1000000, li_2147483647, h, lat, h2, h3]
theorem P_X1_latest (v : gV) : p_X1_latestPeriod 1 v := by
  simp only [p_X1_latestPeriod_0, p_X1_latestPeriod]
theorem R_lastPeriod {B : Nat} : Pl f_X11_lastPeriod p_X11_lastPeriod f_X12_lastPeriod p_X12_lastPeriod B := by
  intro v np nc nt no h
  have s : v.1 1 5 = v.1 560 6 := h.2.2.2.2.2.2.2.1.2.2.2.2.2.2.1
  refine ⟨?_, ?_, ?_⟩
  · simp only [p_X11_lastPeriod_0, p_X11_lastPeriod, P_X1_latest, and_self]
  · simp only [p_X12_lastPeriod_8, p_X12_lastPeriod_0, p_X12_lastPeriod, P_plain, P_X12_latest, and_self]
  · simp only [f_X11_lastPeriod_0, f_X11_lastPeriod, f_X12_lastPeriod_8, f_X12_lastPeriod_0, f_X12_lastPeriod, F_plain, F_X12_latest, F_X1_latest h.2.1 s]
