/-! the invariant between two calls -/
def JS (B : Nat) (v : gV) : Prop := (v.1 0 5 = nI 0 ∧ v.1 559 10 = nI 0) ∨ (v.1 0 5 = nI 1 ∧ v.1 559 10 = nI 1 ∧ BRx B v 51 (v.1 562))
def JT (v : gV) : Prop := ∃ n, n ≤ 60 ∧ v.1 554 3 = nI n ∧ v.1 559 16 = nI n ∧ ∀ i, i < n → v.1 555 i = v.1 567 i ∧ 32 ≤ (v.1 567 i).toInt ∧ (v.1 567 i).toInt ≤ 126
def JO (v : gV) : Prop := ∃ n, n ≤ 80 ∧ v.1 557 3 = nI n ∧ v.1 559 12 = nI n ∧ ∀ i, i < n → v.1 558 i = v.1 566 i ∧ 32 ≤ (v.1 566 i).toInt ∧ (v.1 566 i).toInt ≤ 126
def JE (v : gV) : Prop := v.1 0 6 = v.1 559 8 ∧ v.1 0 7 = v.1 559 9
def J (B : Nat) (v : gV) : Prop := BRx B v 1 (v.1 560) ∧ JH B v ∧ JS B v ∧ JT v ∧ JO v ∧ JE v
theorem J.one {B : Nat} {u v : gV} (h : u.1 = v.1) (hJ : J B v) : J B u := by
  obtain ⟨a, b⟩ := u
  obtain ⟨c, d⟩ := v
  have h : a = c := h
  subst h
  exact hJ
theorem JH.mono {B B' : Nat} {v : gV} (hB : B ≤ B') : JH B v → JH B' v := fun ⟨o, d, h1, h2, h3, h4, h5, h6⟩ => ⟨o, d, h1, h2, h3, h4, h5, fun i hi => (h6 i hi).mono hB⟩
theorem JS.mono {B B' : Nat} {v : gV} (hB : B ≤ B') : JS B v → JS B' v := fun h => h.imp id fun ⟨h1, h2, h3⟩ => ⟨h1, h2, h3.mono hB⟩
theorem J.mono {B B' : Nat} {v : gV} (hB : B ≤ B') : J B v → J B' v := fun ⟨h1, h2, h3, h4⟩ => ⟨h1.mono hB, h2.mono hB, h3.mono hB, h4⟩
/-- a state pushed on the ring -/
theorem JH_push {B o d : Nat} {v u : gV} {P : Nat → Int32} (ho : o < 9) (hd : d ≤ 8) (h1 : v.1 101 1 = nI o) (h2 : v.1 101 2 = nI d) (hh : ∀ i, i < d → BRx B v (103 + 50 * ((o + i) % 9)) (fun k => v.1 563 (300 * i + k))) (hb : BRx B v 1 (v.1 560)) (h101 : u.1 101 = if d = 8 then upd (v.1 101) 1 (nI ((o + 1) % 9)) else upd (v.1 101) 2 (nI (d + 1))) (h559 : u.1 559 7 = nI (if d = 8 then 8 else d + 1)) (h563 : u.1 563 = his (v.1 563) P d) (hP : ∀ k, k < 300 → P k = v.1 560 k) (hsl : ∀ j, 103 ≤ j → j < 553 → (j < 103 + 50 * ((o + d) % 9) ∨ 103 + 50 * ((o + d) % 9) + 50 ≤ j) → u.1 j = v.1 j) (hsp : ∀ q k, rel q k → u.1 (103 + 50 * ((o + d) % 9) + q) k = v.1 (1 + q) k) : JH B u := by
  have hnew : BRx B u (103 + 50 * ((o + d) % 9)) (v.1 560) := hb.copy hsp
  by_cases h8 : d = 8
  · subst h8
    rw [if_pos rfl] at h101 h559
    refine ⟨(o + 1) % 9, 8, by omega, by omega, by rw [h101, upd_eq], by rw [h101, upd_ne (by omega)]; exact h2, h559, fun i hi => ?_⟩
    have e : ((o + 1) % 9 + i) % 9 = (o + (i + 1)) % 9 := by omega
    rw [e]
    unfold his at h563
    rw [if_pos rfl] at h563
    by_cases h7 : i = 7
    · subst h7
      refine hnew.w fun k hk => ?_
      show u.1 563 (300 * 7 + k) = v.1 560 k
      rw [h563, cp3_in hk, Nat.zero_add, hP k hk]
    · refine ((hh (i + 1) (by omega)).same fun j hj1 hj2 => ?_).w fun k hk => ?_
      · exact hsl j (by omega) (by omega) (by omega)
      · show u.1 563 (300 * i + k) = v.1 563 (300 * (i + 1) + k)
        rw [h563, cp3_out (by omega), if_pos (by omega), show 300 * i + k + 300 = 300 * (i + 1) + k by omega]
  · rw [if_neg h8] at h101 h559
    refine ⟨o, d + 1, ho, by omega, by rw [h101, upd_ne (by omega)]; exact h1, by rw [h101, upd_eq], h559, fun i hi => ?_⟩
    unfold his at h563
    rw [if_neg h8] at h563
    by_cases h7 : i = d
    · subst h7
      refine hnew.w fun k hk => ?_
      show u.1 563 (300 * i + k) = v.1 560 k
      rw [h563, cp3_in hk, Nat.zero_add, hP k hk]
    · refine ((hh i (by omega)).same fun j hj1 hj2 => ?_).w fun k hk => ?_
      · exact hsl j (by omega) (by omega) (by omega)
      · show u.1 563 (300 * i + k) = v.1 563 (300 * i + k)
        rw [h563, cp3_out (by omega)]
/-- the ring untouched -/
theorem JH_same {B : Nat} {v u : gV} (h : JH B v) (h101 : u.1 101 = v.1 101) (h7 : u.1 559 7 = v.1 559 7) (h563 : u.1 563 = v.1 563) (hsl : ∀ o d, o < 9 → d ≤ 8 → v.1 101 1 = nI o → v.1 101 2 = nI d → ∀ j, 103 ≤ j → j < 553 → (j < 103 + 50 * ((o + d) % 9) ∨ 103 + 50 * ((o + d) % 9) + 50 ≤ j) → u.1 j = v.1 j) : JH B u := by
  obtain ⟨o, d, h1, h2, h3, h4, h5, h6⟩ := h
  refine ⟨o, d, h1, h2, by rw [h101]; exact h3, by rw [h101]; exact h4, by rw [h7]; exact h5, fun i hi => ?_⟩
  refine ((h6 i hi).same fun j hj1 hj2 => ?_).w fun k hk => ?_
  · exact hsl o d h1 h2 h3 h4 j (by omega) (by omega) (by omega)
  · show u.1 563 _ = _
    rw [h563]
def oy1 (y : Int32) : Prop := y = nI 1
def oy2 (y : Int32) : Prop := y = nI 1 ∨ y = nI 2
def oy3 (y : Int32) : Prop := y = nI 1 ∨ y = nI 2 ∨ y = nI 3
def oy4 (y : Int32) : Prop := y = nI 1 ∨ y = nI 2 ∨ y = nI 3 ∨ y = nI 4
/-- a command: the class' method C beside the reference's test Y and change X -/
def Cmd (C : gV → (Int32 ⊕ String) × gV) (pC : gV → Prop) (Y : gV → Int32) (pY : gV → Prop) (X : gV → Int32 × gV) (pX : gV → Prop) (eY : Int32 → String) (oy : Int32 → Prop) (B : Nat) : Prop := ∀ (v : gV) (w : Nat → Int32), BRx B v 1 w → pC v ∧ ∃ y : Int32, (∀ u : gV, u.1 560 = w → pY u ∧ Y u = y) ∧ (¬ y = nI 0 → C v = (Sum.inr (eY y), v) ∧ oy y) ∧ (y = nI 0 → ∃ r v', C v = (Sum.inl r, v') ∧ Fr v v' ∧ ∀ u : gV, u.1 560 = w → pX u ∧ ∃ u', X u = (r, u') ∧ u'.2 = u.2 ∧ (∀ j, ¬ j = 560 → ¬ j = 564 → ¬ j = 565 → u'.1 j = u.1 j) ∧ BRx (B + 1) v' 1 (u'.1 560))
theorem vRow560 (u : gV) (m : Nat → Int32) : (vRow u 560 m).2 = u.2 ∧ (∀ j, ¬ j = 560 → ¬ j = 564 → ¬ j = 565 → (vRow u 560 m).1 j = u.1 j) ∧ (vRow u 560 m).1 560 = m := ⟨rfl, fun j h _ _ => vRow_ne _ _ h, vRow_eq _ _ _⟩
def eIns (y : Int32) : String := if y = nI 1 then "java/lang/IllegalArgumentException" else "java/lang/IllegalStateException"
def eEnd (y : Int32) : String := if y = nI 1 then "java/util/NoSuchElementException" else "java/lang/IllegalStateException"
theorem Cmd_ins (a b c : Int32) {B : Nat} (hB : B < 40000) : Cmd (f_X1_makePolicy 1 a b c) (p_X1_makePolicy 1 a b c) (f_X12_cannotInsure a b c) (p_X12_cannotInsure a b c) (f_X12_insures a b c) (p_X12_insures a b c) eIns oy2 B := by
  intro v w ⟨np, nc, nt, no, h⟩
  have hw := h.1
  have s1 : v.1 2 1 = nI np := h.2.2.2.2.2.2.2.1.1
  by_cases hy : yIns w a b c = nI 0
  · obtain ⟨hp, h8, v', hf, hfr, hb⟩ := K_makePolicy a b c v hB h hy
    refine ⟨hp, nI 0, fun u hu => ⟨P_X12_cannotInsure a b c u, by rw [F_X12_cannotInsure, hu, hy]⟩, fun h => absurd rfl h, fun _ => ⟨_, v', hf, hfr, fun u hu => ?_⟩⟩
    have hu0 : u.1 560 0 = nI np := by rw [hu]; exact hw.1
    obtain ⟨r1, r2, r3⟩ := vRow560 u (mIns (u.1 560) np a b c)
    refine ⟨P_X12_insures a b c u hu0 h8, _, by rw [F_X12_insures a b c u hu0 h8, hu], by rw [← hu]; exact r1, by rw [← hu]; exact r2, ?_⟩
    rw [← hu, r3, hu]
    exact ⟨_, _, _, _, hb⟩
  · obtain ⟨hp, hf, hyy⟩ := Y_makePolicy a b c v s1 hw.2.2.2.2.1 w hw.1 hy
    exact ⟨hp, yIns w a b c, fun u hu => ⟨P_X12_cannotInsure a b c u, by rw [F_X12_cannotInsure, hu]⟩, fun _ => ⟨hf, hyy⟩, fun h => absurd h hy⟩
theorem Cmd_end (x : Int32) {B : Nat} : Cmd (f_X1_removePolicy 1 x) (p_X1_removePolicy 1 x) (f_X12_cannotEnd x) (p_X12_cannotEnd x) (f_X12_ends x) (p_X12_ends x) eEnd oy2 B := by
  intro v w ⟨np, nc, nt, no, h⟩
  have hw := h.1
  have wp := h.2.2.1
  obtain ⟨hp, hf1, hf2, hf0⟩ := K_removePolicy x v h
  refine ⟨hp, yEnd w np nc x, fun u hu => ⟨P_X12_cannotEnd x u (by rw [hu]; exact hw.1) hw.2.2.2.2.1 (by rw [hu]; exact hw.2.1) hw.2.2.2.2.2.1, by rw [F_X12_cannotEnd x u (np := np) (nc := nc) (by rw [hu]; exact hw.1) hw.2.2.2.2.1 (by rw [hu]; exact hw.2.1) hw.2.2.2.2.2.1, hu]⟩, fun hy => ?_, fun hy => ?_⟩
  · have h12 : yEnd w np nc x = nI 1 ∨ yEnd w np nc x = nI 2 := by
      unfold yEnd at hy ⊢
      cases e : pol w np x with
      | none => exact Or.inl rfl
      | some k =>
        rw [e] at hy
        cases e2 : hcl w nc x with
        | true => exact Or.inr rfl
        | false => rw [e2] at hy; exact absurd rfl hy
    rcases h12 with h1 | h2
    · rw [h1]
      exact ⟨hf1 h1, Or.inl rfl⟩
    · rw [h2]
      exact ⟨hf2 h2, Or.inr rfl⟩
  · obtain ⟨k, v', he, hf, hfr, hb⟩ := hf0 hy
    refine ⟨_, v', hf, hfr, fun u hu => ?_⟩
    have h3 := wp.1 k (pol_lt he)
    unfold WFp1 at h3
    have hx := K_X12_ends x u (n := np) (k := k) (by rw [hu]; exact hw.1) hw.2.2.2.2.1 (by rw [hu]; exact he) (by rw [hu, i_eq, tI (by omega)]; omega)
    obtain ⟨r1, r2, r3⟩ := vRow560 u (mEnd (u.1 560) np k)
    refine ⟨hx.1, _, by rw [hx.2, hu], by rw [← hu]; exact r1, by rw [← hu]; exact r2, ?_⟩
    rw [← hu, r3, hu]
    exact ⟨_, _, _, _, hb⟩
theorem Cmd_tre (a b c d : Int32) {B : Nat} : Cmd (f_X1_makeTreaty 1 a b c d) (p_X1_makeTreaty 1 a b c d) (f_X12_cannotTreat a b c d) (p_X12_cannotTreat a b c d) (f_X12_treats a b c d) (p_X12_treats a b c d) eTre oy2 B := by
  intro v w ⟨np, nc, nt, no, h⟩
  have hw := h.1
  by_cases hy : yTre w a b c d = nI 0
  · obtain ⟨hp, h4, v', hf, hfr, hb⟩ := K_makeTreaty a b c d v h hy
    refine ⟨hp, nI 0, fun u hu => ⟨P_X12_cannotTreat a b c d u, by rw [F_X12_cannotTreat, hu, hy]⟩, fun h => absurd rfl h, fun _ => ⟨_, v', hf, hfr, fun u hu => ?_⟩⟩
    have hx := K_X12_treats a b c d u (n := nt) (by rw [hu]; exact hw.2.2.1) h4
    obtain ⟨r1, r2, r3⟩ := vRow560 u (mTre (u.1 560) nt a b c d)
    refine ⟨hx.1, _, hx.2, r1, r2, ?_⟩
    rw [r3, hu]
    exact ⟨_, _, _, _, hb⟩
  · obtain ⟨hp, hf, hyy⟩ := Y_makeTreaty a b c d v h hy
    exact ⟨hp, yTre w a b c d, fun u hu => ⟨P_X12_cannotTreat a b c d u, by rw [F_X12_cannotTreat, hu]⟩, fun _ => ⟨hf, hyy⟩, fun h => absurd h hy⟩
theorem Cmd_voi (x : Int32) {B : Nat} : Cmd (f_X1_removeTreaty 1 x) (p_X1_removeTreaty 1 x) (f_X12_cannotVoid x) (p_X12_cannotVoid x) (f_X12_voids x) (p_X12_voids x) eVoi oy2 B := by
  intro v w ⟨np, nc, nt, no, h⟩
  have hw := h.1
  obtain ⟨hp, hf1, hf0⟩ := K_removeTreaty x v h
  refine ⟨hp, yVoi w nt nc x, fun u hu => ?_, fun hy => ?_, fun hy => ?_⟩
  · have hx := K_X12_cannotVoid x u (nt := nt) (nc := nc) (by rw [hu]; exact hw.2.2.1) hw.2.2.2.2.2.2.1 (by rw [hu]; exact hw.2.1) hw.2.2.2.2.2.1
    rw [hu] at hx
    exact hx
  · exact ⟨(hf1 hy).1, (hf1 hy).2⟩
  · obtain ⟨t, v', rfl, ht, hf, hfr, hb⟩ := hf0 hy
    refine ⟨_, v', hf, hfr, fun u hu => ?_⟩
    have hx := K_X12_voids u (n := nt) (nc := nc) (t := t) (by rw [hu]; exact hw.2.2.1) hw.2.2.2.2.2.2.1 ht (by rw [hu]; exact hw.2.1) hw.2.2.2.2.2.1
    obtain ⟨r1, r2, r3⟩ := vRow560 u (mVoi (u.1 560) nt nc t)
    refine ⟨hx.1, _, by rw [hx.2, hu], by rw [← hu]; exact r1, by rw [← hu]; exact r2, ?_⟩
    rw [← hu, r3, hu]
    exact ⟨_, _, _, _, hb⟩
theorem Cmd_clm (x c d : Int32) {B : Nat} (hB : B < 40000) (hnar : vp_nar .char c = c) : Cmd (f_X1_makeClaim 1 x c d) (p_X1_makeClaim 1 x c d) (f_X12_cannotClaim x c d) (p_X12_cannotClaim x c d) (f_X12_claims x c d) (p_X12_claims x c d) eClm oy4 B := by
  intro v w ⟨np, nc, nt, no, h⟩
  have hw := h.1
  have hyu : ∀ u : gV, u.1 560 = w → p_X12_cannotClaim x c d u ∧ f_X12_cannotClaim x c d u = yClm w np x c d := fun u hu => by
    have hx := K_X12_cannotClaim x c d u (np := np) (by rw [hu]; exact hw.1) hw.2.2.2.2.1
    rw [hu] at hx
    exact hx
  by_cases hy : yClm w np x c d = nI 0
  · obtain ⟨hp, h12, k, A, v', he, hA, hA2, hf, hfr, hb⟩ := K_makeClaim x c d v hB hnar h hy
    refine ⟨hp, nI 0, fun u hu => by rw [← hy]; exact hyu u hu, fun h => absurd rfl h, fun _ => ⟨_, v', hf, hfr, fun u hu => ?_⟩⟩
    have hx := K_X12_claims x c d u (np := np) (n := nc) (nt := nt) (k := k) (A := A) (by rw [hu]; exact hw.1) hw.2.2.2.2.1 (by rw [hu]; exact hw.2.1) h12 (by rw [hu]; exact hw.2.2.1) hw.2.2.2.2.2.2.1 (by rw [hu]; exact he) (by rw [hu]; exact hA) (by omega)
    have hx2 := hx.2
    rw [hu] at hx2
    refine ⟨hx.1, _, hx2, rfl, fun j h1 h2 h3 => ?_, ?_⟩
    · rw [vRow_ne _ _ h1]
      unfold bVec
      rw [vRow_ne _ _ h3, vRow_ne _ _ h2]
    · rw [vRow_eq]
      exact ⟨_, _, _, _, hb _ _⟩
  · obtain ⟨hp, hf, hyy⟩ := Y_makeClaim x c d v h hy
    exact ⟨hp, yClm w np x c d, hyu, fun _ => ⟨hf, hyy⟩, fun h => absurd h hy⟩
theorem Cmd_pay (x c : Int32) {B : Nat} (hB : B < 40000) : Cmd (f_X1_payPart 1 x c) (p_X1_payPart 1 x c) (f_X12_cannotPay x c) (p_X12_cannotPay x c) (f_X12_pays x c) (p_X12_pays x c) ePay oy3 B := by
  intro v w ⟨np, nc, nt, no, h⟩
  have hw := h.1
  have wc := h.2.2.2.1
  obtain ⟨hp, hf1, hf0⟩ := K_payPart x c v hB h
  refine ⟨hp, yPay w nc x c, fun u hu => ?_, fun hy => ⟨(hf1 hy).1, (hf1 hy).2⟩, fun hy => ?_⟩
  · have hx := K_X12_cannotPay x c u (nc := nc) (by rw [hu]; exact hw.2.1) hw.2.2.2.2.2.1
    rw [hu] at hx
    exact hx
  · obtain ⟨k, s, t, v', he, es, et, hst, ht2, hf, hfr, hb⟩ := hf0 hy
    refine ⟨_, v', hf, hfr, fun u hu => ?_⟩
    have hx := K_X12_pays x c u (nc := nc) (k := k) (s := s) (t := t) (by rw [hu]; exact hw.2.1) hw.2.2.2.2.2.1 (by rw [hu]; exact he) (by rw [hu]; exact WFc_ne0 wc (clm_lt he)) (by rw [hu]; exact es) (by rw [hu]; exact et) hst ht2
    obtain ⟨r1, r2, r3⟩ := vRow560 u (mPay (u.1 560) k s t c)
    refine ⟨hx.1, _, by rw [hx.2, hu], by rw [← hu]; exact r1, by rw [← hu]; exact r2, ?_⟩
    rw [← hu, r3, hu]
    exact ⟨_, _, _, _, hb⟩
theorem Cmd_wai (x : Int32) {B : Nat} (hB : B < 40000) : Cmd (f_X1_removeUnpaidClaim 1 x) (p_X1_removeUnpaidClaim 1 x) (f_X12_cannotWaive x) (p_X12_cannotWaive x) (f_X12_waives x) (p_X12_waives x) eClo oy2 B := by
  intro v w ⟨np, nc, nt, no, h⟩
  have hw := h.1
  obtain ⟨hp, hf1, hf0⟩ := K_removeUnpaid x v hB h
  refine ⟨hp, yWai w nc x, fun u hu => ?_, fun hy => ⟨(hf1 hy).1, (hf1 hy).2⟩, fun hy => ?_⟩
  · have hx := K_X12_cannotWaive x u (nc := nc) (by rw [hu]; exact hw.2.1) hw.2.2.2.2.2.1
    rw [hu] at hx
    exact hx
  · obtain ⟨k, q, v', he, eq, hf, hfr, hb⟩ := hf0 hy
    refine ⟨_, v', hf, hfr, fun u hu => ?_⟩
    have hx := K_X12_waives x u (np := np) (nc := nc) (nt := nt) (k := k) (q := q) (by rw [hu]; exact hw.1) hw.2.2.2.2.1 (by rw [hu]; exact hw.2.1) hw.2.2.2.2.2.1 (by rw [hu]; exact hw.2.2.1) hw.2.2.2.2.2.2.1 (by rw [hu]; exact he) (by rw [hu]; exact eq)
    obtain ⟨r1, r2, r3⟩ := vRow560 u (mWai (u.1 560) nt nc k q)
    refine ⟨hx.1, _, by rw [hx.2, hu], by rw [← hu]; exact r1, by rw [← hu]; exact r2, ?_⟩
    rw [← hu, r3, hu]
    exact ⟨_, _, _, _, hb⟩
/-- the reference's closeClaim, as one change -/
theorem Cmd_clo (x : Int32) {B : Nat} : Cmd (f_X1_removePaidClaim 1 x) (p_X1_removePaidClaim 1 x) (f_X12_cannotClose x) (p_X12_cannotClose x) (fun u => f_X12_removesClaim (f_X12_claim x u) u) (fun u => p_X12_claim x u ∧ p_X12_removesClaim (f_X12_claim x u) u) eClo oy2 B := by
  intro v w ⟨np, nc, nt, no, h⟩
  have hw := h.1
  obtain ⟨hp, hf1, hf0⟩ := K_removePaid x v h
  refine ⟨hp, yClo w nc x, fun u hu => ?_, fun hy => ⟨(hf1 hy).1, (hf1 hy).2⟩, fun hy => ?_⟩
  · have hx := K_X12_cannotClose x u (nc := nc) (by rw [hu]; exact hw.2.1) hw.2.2.2.2.2.1
    rw [hu] at hx
    exact hx
  · obtain ⟨k, v', he, hf, hfr, hb⟩ := hf0 hy
    refine ⟨_, v', hf, hfr, fun u hu => ?_⟩
    have hu1 : u.1 560 1 = nI nc := by rw [hu]; exact hw.2.1
    have hF : f_X12_claim x u = nI k := by rw [F_X12_claim x u hu1 hw.2.2.2.2.2.1, hu, he]; rfl
    have hP := P_X12_claim x u hu1 hw.2.2.2.2.2.1
    have hx := K_X12_removesClaim u (n := nc) (k := k) hu1 hw.2.2.2.2.2.1 (clm_lt he)
    obtain ⟨r1, r2, r3⟩ := vRow560 u (mRem (u.1 560) nc k)
    show (p_X12_claim x u ∧ p_X12_removesClaim (f_X12_claim x u) u) ∧ ∃ u', f_X12_removesClaim (f_X12_claim x u) u = _ ∧ _
    rw [hF]
    refine ⟨⟨hP, hx.1⟩, _, by rw [hx.2, hu], by rw [← hu]; exact r1, by rw [← hu]; exact r2, ?_⟩
    rw [← hu, r3, hu]
    exact ⟨_, _, _, _, hb⟩
theorem Cmd_off (a b c : Int32) {B : Nat} : Cmd (f_X4_add 1 a b c) (p_X4_add 1 a b c) (f_X12_cannotOffer a b c) (p_X12_cannotOffer a b c) (f_X12_offers a b c) (p_X12_offers a b c) eTre oy2 B := by
  intro v w ⟨np, nc, nt, no, h⟩
  have hw := h.1
  obtain ⟨hp, hf1, hf0⟩ := K_addOffer a b c v h
  refine ⟨hp, yOff w a b c, fun u hu => ?_, fun hy => ⟨(hf1 hy).1, (hf1 hy).2⟩, fun hy => ?_⟩
  · have hx := K_X12_cannotOffer a b c u
    rw [hu] at hx
    exact hx
  · obtain ⟨h8, v', hf, hfr, hb⟩ := hf0 hy
    refine ⟨_, v', hf, hfr, fun u hu => ?_⟩
    have hx := K_X12_offers a b c u (n := no) (by rw [hu]; exact hw.2.2.2.1) h8
    obtain ⟨r1, r2, r3⟩ := vRow560 u (mOff (u.1 560) no a b c)
    refine ⟨hx.1, _, hx.2, r1, r2, ?_⟩
    rw [r3, hu]
    exact ⟨_, _, _, _, hb⟩
def eDro (_ : Int32) : String := "java/lang/IndexOutOfBoundsException"
def ePas (_ : Int32) : String := "java/lang/IllegalArgumentException"
theorem Cmd_dro (x : Int32) {B : Nat} : Cmd (f_X4_remove 1 x) (p_X4_remove 1 x) (fun u => if f_X12_in x (nI 0) (u.1 560 3 - nI 1) u = nI 0 then nI 1 else nI 0) (fun u => p_X12_in x (nI 0) (u.1 560 3 - nI 1) u) (f_X12_removesOffer x) (p_X12_removesOffer x) eDro oy1 B := by
  intro v w ⟨np, nc, nt, no, h⟩
  have hw := h.1
  obtain ⟨hp, hf1, hf0⟩ := K_removeOffer x v h
  have h8 := hw.2.2.2.2.2.2.2
  refine ⟨hp, if inx x (nI no) = true then nI 0 else nI 1, fun u hu => ⟨P_X12_in _ _ _ _, ?_⟩, fun hy => ?_, fun hy => ?_⟩
  · show (if f_X12_in x (nI 0) (u.1 560 3 - nI 1) u = nI 0 then nI 1 else nI 0) = _
    rw [F_X12_in, hu, hw.2.2.2.1, inb_inx (by omega)]
    cases inx x (nI no) with
    | true => exact if_neg n10
    | false => exact if_pos rfl
  · cases hx : inx x (nI no) with
    | true => rw [hx] at hy; exact absurd rfl hy
    | false => exact ⟨hf1 hx, rfl⟩
  · cases hx : inx x (nI no) with
    | false => rw [hx] at hy; exact absurd hy n10
    | true =>
      obtain ⟨k, v', rfl, hk, hf, hfr, hb⟩ := hf0 hx
      refine ⟨_, v', hf, hfr, fun u hu => ?_⟩
      have hx := K_X12_removesOffer u (n := no) (k := k) (by rw [hu]; exact hw.2.2.2.1) h8 hk
      obtain ⟨r1, r2, r3⟩ := vRow560 u (mDro (u.1 560) no k)
      refine ⟨hx.1, _, by rw [hx.2, hu], by rw [← hu]; exact r1, by rw [← hu]; exact r2, ?_⟩
      rw [← hu, r3, hu]
      exact ⟨_, _, _, _, hb⟩
theorem Cmd_pas (d : Int32) {B : Nat} (hB : B < 40000) : Cmd (f_X1_advance 1 d) (p_X1_advance 1 d) (fun u => if f_X12_in d (nI 1) (nI 60) u = nI 0 then nI 1 else nI 0) (fun u => p_X12_in d (nI 1) (nI 60) u) (f_X12_passes d) (p_X12_passes d) ePas oy1 B := by
  intro v w ⟨np, nc, nt, no, h⟩
  obtain ⟨hp, hf1, hf0⟩ := K_advance d v hB h
  refine ⟨hp, if inb d (nI 1) (nI 60) = true then nI 0 else nI 1, fun u hu => ⟨P_X12_in _ _ _ _, ?_⟩, fun hy => ?_, fun hy => ?_⟩
  · show (if f_X12_in d (nI 1) (nI 60) u = nI 0 then nI 1 else nI 0) = _
    rw [F_X12_in]
    cases inb d (nI 1) (nI 60) with
    | true => exact if_neg n10
    | false => exact if_pos rfl
  · cases hx : inb d (nI 1) (nI 60) with
    | true => rw [hx] at hy; exact absurd rfl hy
    | false => exact ⟨hf1 hx, rfl⟩
  · cases hx : inb d (nI 1) (nI 60) with
    | false => rw [hx] at hy; exact absurd hy n10
    | true =>
      obtain ⟨v', hf, hfr, hb⟩ := hf0 hx
      refine ⟨_, v', hf, hfr, fun u hu => ?_⟩
      have hx := K_X12_passes d u
      obtain ⟨r1, r2, r3⟩ := vRow560 u (mPas (u.1 560) d)
      refine ⟨hx.1, _, by rw [hx.2, hu], by rw [← hu]; exact r1, by rw [← hu]; exact r2, ?_⟩
      rw [← hu, r3, hu]
      exact ⟨_, _, _, _, hb⟩
