/-! the script's form: what stands for a sign, on both sides -/
def dgt (T : Nat → Int32) (n p : Nat) : Bool := decide (p < n) && inb (T p) (nI 48) (nI 57)
def rdD (T : Nat → Int32) (n p : Nat) : Option (Int32 × Nat) := if dgt T n p = true then some (T p - nI 48, p + 1) else none
def rdN (T : Nat → Int32) (n p : Nat) : Option (Int32 × Nat) := if dgt T n p = true then (if dgt T n (p + 1) = true then some ((T p - nI 48) * nI 10 + (T (p + 1) - nI 48), p + 2) else some (T p - nI 48, p + 1)) else none
def rdC (T : Nat → Int32) (n p : Nat) : Option (Int32 × Nat) := if p < n ∧ isC (T p) = true then some (T p, p + 1) else none
def rdL (T : Nat → Int32) (n p c : Nat) : Option (Int32 × Nat) := if p < n ∧ T p = nI c then some (T p, p + 1) else none
def rs (T : Nat → Int32) (n p c : Nat) : Option (Int32 × Nat) := if c = 78 then rdN T n p else if c = 68 then rdD T n p else if c = 67 then rdC T n p else rdL T n p c
theorem dgt_n {T : Nat → Int32} {n p : Nat} (h : dgt T n p = true) : p < n ∧ ∃ d, d ≤ 9 ∧ T p = nI (48 + d) ∧ T p - nI 48 = nI d := by
  unfold dgt at h
  rw [Bool.and_eq_true, decide_eq_true_eq, inb_t] at h
  obtain ⟨h1, h2, h3⟩ := h
  have e48 : (nI 48).toInt = 48 := by decide +kernel
  have e57 : (nI 57).toInt = 57 := by decide +kernel
  rw [e48] at h2
  rw [e57] at h3
  obtain ⟨m, hm, e⟩ := nI_ofI (x := T p) (m := 58) (by omega) (by omega)
  have hm2 : 48 ≤ m := by
    rw [e, tI (by omega)] at h2
    omega
  refine ⟨h1, m - 48, by omega, by rw [e]; congr 1; omega, ?_⟩
  rw [e, sub_n hm2]
theorem rs_n {T : Nat → Int32} {n p c : Nat} {x : Int32} {q : Nat} (hc : c < 128) (h : rs T n p c = some (x, q)) : p < q ∧ q ≤ n ∧ q ≤ p + 2 ∧ ∃ m, m < 200 ∧ x = nI m := by
  unfold rs at h
  by_cases h78 : c = 78
  · rw [if_pos h78] at h
    unfold rdN at h
    by_cases d1 : dgt T n p = true
    · obtain ⟨a1, d, a2, a3, a4⟩ := dgt_n d1
      rw [if_pos d1] at h
      by_cases d2 : dgt T n (p + 1) = true
      · obtain ⟨b1, e, b2, b3, b4⟩ := dgt_n d2
        rw [if_pos d2, a4, b4, nI_mul, nI_add] at h
        cases h
        exact ⟨by omega, by omega, by omega, _, by omega, rfl⟩
      · rw [if_neg d2, a4] at h
        cases h
        exact ⟨by omega, by omega, by omega, _, by omega, rfl⟩
    · rw [if_neg d1] at h
      cases h
  · rw [if_neg h78] at h
    by_cases h68 : c = 68
    · rw [if_pos h68] at h
      unfold rdD at h
      by_cases d1 : dgt T n p = true
      · obtain ⟨a1, d, a2, a3, a4⟩ := dgt_n d1
        rw [if_pos d1, a4] at h
        cases h
        exact ⟨by omega, by omega, by omega, _, by omega, rfl⟩
      · rw [if_neg d1] at h
        cases h
    · rw [if_neg h68] at h
      by_cases h67 : c = 67
      · rw [if_pos h67] at h
        unfold rdC at h
        by_cases d1 : p < n ∧ isC (T p) = true
        · rw [if_pos d1] at h
          cases h
          have hb := isC_b d1.2
          obtain ⟨m, hm, e⟩ := nI_ofI (x := T p) (m := 200) (by omega) (by omega)
          exact ⟨by omega, by omega, by omega, m, hm, e⟩
        · rw [if_neg d1] at h
          cases h
      · rw [if_neg h67] at h
        unfold rdL at h
        by_cases d1 : p < n ∧ T p = nI c
        · rw [if_pos d1] at h
          cases h
          exact ⟨by omega, by omega, by omega, c, by omega, d1.2⟩
        · rw [if_neg d1] at h
          cases h
/-- the class' text, its place, its numbers -/
def TX (T : Nat → Int32) (n : Nat) (v : gV) : Prop := n ≤ 60 ∧ v.1 554 3 = nI n ∧ ∀ i, i < n → v.1 555 i = T i
def cS (v : gV) (q : Nat) (N : Nat → Int32) : gV := vRow (vRow v 553 (upd (v.1 553) 3 (nI q))) 556 N
theorem cS_553 (v : gV) (q : Nat) (N : Nat → Int32) : (cS v q N).1 553 = upd (v.1 553) 3 (nI q) := by
  unfold cS
  rw [vRow_ne _ _ (by omega), vRow_eq]
theorem cS_p (v : gV) (q : Nat) (N : Nat → Int32) : (cS v q N).1 553 3 = nI q := by rw [cS_553, upd_eq]
theorem cS_o (v : gV) (q : Nat) (N : Nat → Int32) {j : Nat} (h1 : ¬ j = 553) (h2 : ¬ j = 556) : (cS v q N).1 j = v.1 j := by
  unfold cS
  rw [vRow_ne _ _ h2, vRow_ne _ _ h1]
theorem cS_556 (v : gV) (q : Nat) (N : Nat → Int32) : (cS v q N).1 556 = N := vRow_eq _ _ _
theorem cS_pos (v : gV) (q q' : Nat) (N : Nat → Int32) : vM (cS v q N) 553 3 (nI q') = cS v q' N := by
  rw [vM_rw, cS_553, upd_upd]
  unfold cS
  rw [vRow_swap _ (show ¬ 556 = 553 by omega), vRow_row]
theorem cS_num (v : gV) (q k : Nat) (x : Int32) (N : Nat → Int32) : vM (cS v q N) 556 k x = cS v q (upd N k x) := by
  rw [vM_rw, cS_556]
  unfold cS
  rw [vRow_row]
theorem cS_self {v : gV} {q : Nat} (h : v.1 553 3 = nI q) : cS v q (v.1 556) = v := by
  unfold cS
  rw [← h, upd_id, vRow_self, vRow_self]
theorem TX.len {T : Nat → Int32} {n : Nat} {v : gV} (h : TX T n v) (q : Nat) (N : Nat → Int32) : f_J4_length_8abf5 554 (cS v q N) = nI n := by
  show (cS v q N).1 554 3 = nI n
  rw [cS_o _ _ _ (by omega) (by omega)]
  exact h.2.1
theorem TX.at {T : Nat → Int32} {n : Nat} {v : gV} (h : TX T n v) (q : Nat) (N : Nat → Int32) {p : Nat} (hp : p < n) : f_J4_charAt_5068e 554 (nI p) (cS v q N) = T p ∧ p_J4_charAt_5068e 554 (nI p) (cS v q N) := by
  have h1 := h.1
  constructor
  · show (cS v q N).1 (554 + 1) (nI p).toNatClampNeg = T p
    rw [cl_n (by omega), cS_o _ _ _ (by omega) (by omega)]
    exact h.2.2 p hp
  · show vp_in (nI p) ((cS v q N).1 554 3).toNatClampNeg
    rw [cS_o _ _ _ (by omega) (by omega), h.2.1, cl_n (by omega)]
    exact vi_n hp (by omega)
theorem lt_48 {x : Int32} (h : inb x (nI 48) (nI 57) = true) : ¬ x < (48 : Int32) ∧ x ≤ (57 : Int32) := by
  unfold inb at h
  rw [Bool.and_eq_true, decide_eq_true_eq, decide_eq_true_eq] at h
  exact ⟨Int32.not_lt.mpr h.1, h.2⟩
theorem lt_48' {x : Int32} (h : ¬ inb x (nI 48) (nI 57) = true) : x < (48 : Int32) ∨ ¬ x ≤ (57 : Int32) := by
  unfold inb at h
  rw [Bool.and_eq_true, decide_eq_true_eq, decide_eq_true_eq] at h
  by_cases h1 : x < (48 : Int32)
  · exact Or.inl h1
  · exact Or.inr fun h2 => h ⟨Int32.not_lt.mp h1, h2⟩
/-- what a sign's reader answers -/
def oR (v : gV) (p : Nat) (N : Nat → Int32) (o : Option (Int32 × Nat)) : Int32 × gV := o.elim ((-1 : Int32), cS v p N) fun xq => (xq.1, cS v xq.2 N)
theorem K_readDigit {T : Nat → Int32} {n : Nat} {v : gV} (h : TX T n v) (p : Nat) (hp : p ≤ n) (N : Nat → Int32) : p_X7_readDigit (cS v p N) ∧ f_X7_readDigit (cS v p N) = oR v p N (rdD T n p) := by
  have h1 := h.1
  have hL := h.len p N
  have h46 : ∀ w : gV, p_X7_readDigit_46 w := fun w => by rw [p_X7_readDigit_46]; trivial
  have hlp : p_J4_length_8abf5 554 (cS v p N) := trivial
  by_cases hpn : p < n
  · obtain ⟨hA, hAp⟩ := h.at p N hpn
    have c1 : ¬ nI n ≤ nI p := by rw [le_n (by omega) (by omega)]; omega
    by_cases hd : inb (T p) (nI 48) (nI 57) = true
    · obtain ⟨d1, d2⟩ := lt_48 hd
      have hdg : dgt T n p = true := by unfold dgt; rw [hd, Bool.and_true, decide_eq_true_eq]; exact hpn
      have hq : vM (cS v p N) 553 3 (nI p + (1 : Int32)) = cS v (p + 1) N := by rw [li_1, nI_add, cS_pos]
      constructor
      · show p_X7_readDigit_0 (cS v p N)
        rw [p_X7_readDigit_0, hL, cS_p, hA]
        refine ⟨hlp, fun g => absurd g c1, fun _ => ⟨hAp, fun g => absurd g d1, fun _ => ⟨hAp, fun _ => ⟨hAp, ?_⟩, fun g => absurd d2 g⟩⟩⟩
        rw [p_X7_readDigit_73]
        trivial
      · show f_X7_readDigit_0 (cS v p N) = _
        rw [f_X7_readDigit_0, hL, cS_p, hA, if_neg c1, if_neg d1, if_pos d2, hq, f_X7_readDigit_73]
        unfold rdD
        rw [if_pos hdg]
        rfl
    · have hdg : ¬ dgt T n p = true := by unfold dgt; rw [Bool.and_eq_true]; exact fun g => hd g.2
      have e : oR v p N (rdD T n p) = ((-1 : Int32), cS v p N) := by unfold rdD; rw [if_neg hdg]; rfl
      rw [e]
      constructor
      · show p_X7_readDigit_0 (cS v p N)
        rw [p_X7_readDigit_0, hL, cS_p, hA]
        refine ⟨hlp, fun g => absurd g c1, fun _ => ⟨hAp, fun _ => h46 _, fun g1 => ⟨hAp, fun g2 => absurd g2 ((lt_48' hd).resolve_left g1), fun _ => h46 _⟩⟩⟩
      · show f_X7_readDigit_0 (cS v p N) = _
        rw [f_X7_readDigit_0, hL, cS_p, hA, if_neg c1]
        by_cases g1 : T p < (48 : Int32)
        · rw [if_pos g1, f_X7_readDigit_46]
        · rw [if_neg g1, if_neg ((lt_48' hd).resolve_left g1), f_X7_readDigit_46]
  · have c1 : nI n ≤ nI p := by rw [le_n (by omega) (by omega)]; omega
    have hdg : ¬ dgt T n p = true := by unfold dgt; rw [Bool.and_eq_true, decide_eq_true_eq]; exact fun g => hpn g.1
    have e : oR v p N (rdD T n p) = ((-1 : Int32), cS v p N) := by unfold rdD; rw [if_neg hdg]; rfl
    rw [e]
    constructor
    · show p_X7_readDigit_0 (cS v p N)
      rw [p_X7_readDigit_0, hL, cS_p]
      exact ⟨hlp, fun _ => h46 _, fun g => absurd c1 g⟩
    · show f_X7_readDigit_0 (cS v p N) = _
      rw [f_X7_readDigit_0, hL, cS_p, if_pos c1, f_X7_readDigit_46]
theorem m1_neg : ¬ (0 : Int32) ≤ (-1 : Int32) := by decide +kernel
theorem nI_nn0 {m : Nat} (h : m < 2147483648) : (0 : Int32) ≤ nI m := (le_n (a := 0) (by omega) h).mpr (Nat.zero_le _)
theorem K_readNumber {T : Nat → Int32} {n : Nat} {v : gV} (h : TX T n v) (p : Nat) (hp : p ≤ n) (N : Nat → Int32) : p_X7_readNumber (cS v p N) ∧ f_X7_readNumber (cS v p N) = oR v p N (rdN T n p) := by
  obtain ⟨k1, k2⟩ := K_readDigit h p hp N
  have hN30 : ∀ (x : Int32) (w : gV), p_X7_readNumber_30 x w := fun x w => by rw [p_X7_readNumber_30]; trivial
  by_cases hd : dgt T n p = true
  · obtain ⟨a1, d, a2, a3, a4⟩ := dgt_n hd
    have e : rdD T n p = some (nI d, p + 1) := by unfold rdD; rw [if_pos hd, a4]
    rw [e] at k2
    have k2 : f_X7_readDigit (cS v p N) = (nI d, cS v (p + 1) N) := k2
    obtain ⟨m1, m2⟩ := K_readDigit h (p + 1) (by omega) N
    by_cases hd2 : dgt T n (p + 1) = true
    · obtain ⟨b1, d', b2, b3, b4⟩ := dgt_n hd2
      have e2 : rdD T n (p + 1) = some (nI d', p + 1 + 1) := by unfold rdD; rw [if_pos hd2, b4]
      rw [e2] at m2
      have m2 : f_X7_readDigit (cS v (p + 1) N) = (nI d', cS v (p + 1 + 1) N) := m2
      have e3 : rdN T n p = some (nI d * nI 10 + nI d', p + 2) := by unfold rdN; rw [if_pos hd, if_pos hd2, a4, b4]
      rw [e3]
      constructor
      · show p_X7_readNumber_0 (cS v p N)
        rw [p_X7_readNumber_0, k2]
        refine ⟨k1, ?_⟩
        rw [p_X7_readNumber_4, m2]
        refine ⟨fun _ => ⟨m1, ?_⟩, fun g => absurd (nI_nn0 (by omega)) g⟩
        rw [p_X7_readNumber_15]
        exact ⟨fun _ => hN30 _ _, fun _ => hN30 _ _⟩
      · show f_X7_readNumber_0 (cS v p N) = _
        rw [f_X7_readNumber_0, k2, f_X7_readNumber_4, if_pos (nI_nn0 (by omega)), m2, f_X7_readNumber_15, if_pos (nI_nn0 (by omega)), f_X7_readNumber_30]
        rfl
    · have e2 : rdD T n (p + 1) = none := by unfold rdD; rw [if_neg hd2]
      rw [e2] at m2
      have m2 : f_X7_readDigit (cS v (p + 1) N) = ((-1 : Int32), cS v (p + 1) N) := m2
      have e3 : rdN T n p = some (nI d, p + 1) := by unfold rdN; rw [if_pos hd, if_neg hd2, a4]
      rw [e3]
      constructor
      · show p_X7_readNumber_0 (cS v p N)
        rw [p_X7_readNumber_0, k2]
        refine ⟨k1, ?_⟩
        rw [p_X7_readNumber_4, m2]
        refine ⟨fun _ => ⟨m1, ?_⟩, fun g => absurd (nI_nn0 (by omega)) g⟩
        rw [p_X7_readNumber_15]
        exact ⟨fun _ => hN30 _ _, fun _ => hN30 _ _⟩
      · show f_X7_readNumber_0 (cS v p N) = _
        rw [f_X7_readNumber_0, k2, f_X7_readNumber_4, if_pos (nI_nn0 (by omega)), m2, f_X7_readNumber_15, if_neg m1_neg, f_X7_readNumber_30]
        rfl
  · have e : rdD T n p = none := by unfold rdD; rw [if_neg hd]
    rw [e] at k2
    have k2 : f_X7_readDigit (cS v p N) = ((-1 : Int32), cS v p N) := k2
    have e3 : rdN T n p = none := by unfold rdN; rw [if_neg hd]
    rw [e3]
    constructor
    · show p_X7_readNumber_0 (cS v p N)
      rw [p_X7_readNumber_0, k2]
      refine ⟨k1, ?_⟩
      rw [p_X7_readNumber_4]
      exact ⟨fun g => absurd g m1_neg, fun _ => trivial⟩
    · show f_X7_readNumber_0 (cS v p N) = _
      rw [f_X7_readNumber_0, k2, f_X7_readNumber_4, if_neg m1_neg]
      rfl
theorem K_readCharacter {T : Nat → Int32} {n : Nat} {v : gV} (h : TX T n v) (p : Nat) (hp : p ≤ n) (N : Nat → Int32) (c : Nat) (hc : c < 128) : p_X7_readCharacter (nI c) (cS v p N) ∧ f_X7_readCharacter (nI c) (cS v p N) = oR v p N (if c = 67 then rdC T n p else rdL T n p c) := by
  have h1 := h.1
  have hL := h.len p N
  have hlp : p_J4_length_8abf5 554 (cS v p N) := trivial
  have hq : vM (cS v p N) 553 3 (nI p + (1 : Int32)) = cS v (p + 1) N := by rw [li_1, nI_add, cS_pos]
  have h51 : ∀ (x s : Int32), p_X7_readCharacter_51 x s (cS v p N) := fun x s => by
    rw [p_X7_readCharacter_51]
    exact ⟨fun _ => trivial, fun _ => by rw [p_X7_readCharacter_68]; trivial⟩
  have g0 : ∀ x : Int32, f_X7_readCharacter_51 x (nI 0) (cS v p N) = ((-1 : Int32), cS v p N) := fun x => by
    rw [f_X7_readCharacter_51]
    exact if_pos rfl
  have g1 : ∀ x : Int32, f_X7_readCharacter_51 x (nI 1) (cS v p N) = (x, cS v (p + 1) N) := fun x => by
    rw [f_X7_readCharacter_51, cS_p, hq, f_X7_readCharacter_68]
    exact if_neg n10
  by_cases hpn : p < n
  · obtain ⟨hA, hAp⟩ := h.at p N hpn
    have c1 : nI p < nI n := by rw [lt_n (by omega) (by omega)]; exact hpn
    by_cases h67 : c = 67
    · subst h67
      have e67 : nI 67 = (67 : Int32) := rfl
      constructor
      · show p_X7_readCharacter_0 (nI 67) (cS v p N)
        rw [p_X7_readCharacter_0, hL, cS_p, hA]
        exact ⟨hlp, fun _ => ⟨hAp, fun _ => ⟨P_X11_isCause _ _, h51 _ _⟩, fun g => absurd e67 g⟩, fun g => absurd c1 g⟩
      · show f_X7_readCharacter_0 (nI 67) (cS v p N) = _
        rw [f_X7_readCharacter_0, hL, cS_p, hA, if_pos c1, if_pos e67, if_pos rfl, F_X11_isCause]
        unfold rdC
        by_cases hi : isC (T p) = true
        · rw [if_pos hi, if_pos ⟨hpn, hi⟩, g1]
          rfl
        · rw [if_neg hi, if_neg (fun g => hi g.2), g0]
          rfl
    · have e67 : ¬ nI c = (67 : Int32) := by
        intro g
        have g : nI c = nI 67 := g
        rw [eq_n (by omega) (by omega)] at g
        exact h67 g
      constructor
      · show p_X7_readCharacter_0 (nI c) (cS v p N)
        rw [p_X7_readCharacter_0, hL, cS_p, hA]
        exact ⟨hlp, fun _ => ⟨hAp, fun g => absurd g e67, fun _ => ⟨fun _ => h51 _ _, fun _ => h51 _ _⟩⟩, fun g => absurd c1 g⟩
      · show f_X7_readCharacter_0 (nI c) (cS v p N) = _
        rw [f_X7_readCharacter_0, hL, cS_p, hA, if_pos c1, if_neg e67, if_neg h67]
        unfold rdL
        by_cases hi : T p = nI c
        · rw [if_pos hi, if_pos ⟨hpn, hi⟩, li_1, g1]
          rfl
        · rw [if_neg hi, if_neg (fun g => hi g.2), li_0, g0]
          rfl
  · have c1 : ¬ nI p < nI n := by rw [lt_n (by omega) (by omega)]; exact hpn
    have e : (if c = 67 then rdC T n p else rdL T n p c) = none := by
      have e1 : rdC T n p = none := if_neg fun g => hpn g.1
      have e2 : rdL T n p c = none := if_neg fun g => hpn g.1
      rw [e1, e2, ite_self]
    rw [e]
    constructor
    · show p_X7_readCharacter_0 (nI c) (cS v p N)
      rw [p_X7_readCharacter_0, hL, cS_p]
      exact ⟨hlp, fun g => absurd g c1, fun _ => trivial⟩
    · show f_X7_readCharacter_0 (nI c) (cS v p N) = _
      rw [f_X7_readCharacter_0, hL, cS_p, if_neg c1]
      rfl
theorem K_readSign {T : Nat → Int32} {n : Nat} {v : gV} (h : TX T n v) (p : Nat) (hp : p ≤ n) (N : Nat → Int32) (c : Nat) (hc : c < 128) : p_X7_readSign (nI c) (cS v p N) ∧ f_X7_readSign (nI c) (cS v p N) = oR v p N (rs T n p c) := by
  have hpair : ∀ a : Int32 × gV, (a.1, a.2) = a := fun a => rfl
  have e78 : nI c = (78 : Int32) ↔ c = 78 := by
    rw [li_78, eq_n (by omega) (by omega)]
  have e68 : nI c = (68 : Int32) ↔ c = 68 := by
    rw [li_68, eq_n (by omega) (by omega)]
  obtain ⟨a1, a2⟩ := K_readNumber h p hp N
  obtain ⟨b1, b2⟩ := K_readDigit h p hp N
  obtain ⟨c1, c2⟩ := K_readCharacter h p hp N c hc
  constructor
  · show p_X7_readSign_0 (nI c) (cS v p N)
    rw [p_X7_readSign_0]
    refine ⟨fun _ => ⟨a1, by rw [p_X7_readSign_10]; trivial⟩, fun _ => ⟨fun _ => ⟨b1, ?_⟩, fun _ => ⟨c1, by rw [p_X7_readSign_29]; trivial⟩⟩⟩
    rw [p_X7_readSign_21, p_X7_readSign_29]
    trivial
  · show f_X7_readSign_0 (nI c) (cS v p N) = _
    rw [f_X7_readSign_0]
    unfold rs
    by_cases h78 : c = 78
    · rw [if_pos (e78.mpr h78), if_pos h78, f_X7_readSign_10, ← a2]
    · rw [if_neg (fun g => h78 (e78.mp g)), if_neg h78]
      by_cases h68 : c = 68
      · rw [if_pos (e68.mpr h68), if_pos h68, f_X7_readSign_21, f_X7_readSign_29, ← b2]
      · rw [if_neg (fun g => h68 (e68.mp g)), if_neg h68, f_X7_readSign_29, ← c2]
/-! a form, sign by sign -/
def isP (c : Nat) : Bool := decide (c = 78) || decide (c = 68) || decide (c = 67)
def ft (T : Nat → Int32) (n : Nat) : List Nat → Nat → Nat → (Nat → Int32) → Bool × Nat × (Nat → Int32)
  | [], p, _, N => (true, p, N)
  | c :: L, p, r, N => (rs T n p c).elim (false, p, N) fun xq => if isP c = true ∧ r < 4 then ft T n L xq.2 (r + 1) (upd N r xq.1) else ft T n L xq.2 r N
def fm (i : Nat) : List Nat := [[105, 110, 115, 117, 114, 101, 32, 78, 32, 68, 32, 78], [101, 110, 100, 32, 78], [116, 114, 101, 97, 116, 121, 32, 78, 43, 78, 42, 78, 32, 78], [118, 111, 105, 100, 32, 68], [99, 108, 97, 105, 109, 32, 78, 67, 78], [112, 97, 121, 32, 78, 32, 78], [99, 108, 111, 115, 101, 32, 78], [119, 97, 105, 118, 101, 32, 78], [111, 102, 102, 101, 114, 32, 78, 45, 78, 32, 78], [119, 97, 105, 116, 32, 78]].getD i []
theorem fm_len : ∀ i, i < 10 → gLen.getD i 0 = (fm i).length := by decide
theorem fm_byt : ∀ i, i < 10 → ∀ q, q < (fm i).length → (gByt.getD i []).getD q 0 = nI ((fm i).getD q 0) := by decide +kernel
theorem fm_max : ∀ i, i < 10 → (fm i).length ≤ 14 := by decide
theorem fm_ch : ∀ i, i < 10 → ∀ c, c ∈ fm i → c < 128 := by decide
theorem K_isPlaceholder (c : Nat) (hc : c < 128) (v : gV) : p_X7_isPlaceholder (nI c) v ∧ f_X7_isPlaceholder (nI c) v = if isP c = true then nI 1 else nI 0 := by
  have e78 : nI c = (78 : Int32) ↔ c = 78 := by
    rw [li_78, eq_n (by omega) (by omega)]
  have e68 : nI c = (68 : Int32) ↔ c = 68 := by
    rw [li_68, eq_n (by omega) (by omega)]
  have e67 : nI c = (67 : Int32) ↔ c = 67 := by
    rw [li_67, eq_n (by omega) (by omega)]
  have z0 : p_X7_isPlaceholder_23 (0 : Int32) v := by rw [p_X7_isPlaceholder_23]; exact ⟨Or.inl rfl, trivial⟩
  have z1 : p_X7_isPlaceholder_18 v := by rw [p_X7_isPlaceholder_18, p_X7_isPlaceholder_23]; exact ⟨Or.inr rfl, trivial⟩
  constructor
  · show p_X7_isPlaceholder_0 (nI c) v
    rw [p_X7_isPlaceholder_0]
    exact ⟨fun _ => z1, fun _ => ⟨fun _ => z1, fun _ => ⟨fun _ => z1, fun _ => z0⟩⟩⟩
  · show f_X7_isPlaceholder_0 (nI c) v = _
    rw [f_X7_isPlaceholder_0, f_X7_isPlaceholder_18, f_X7_isPlaceholder_23, f_X7_isPlaceholder_23]
    unfold isP
    by_cases h78 : c = 78
    · rw [if_pos (e78.mpr h78), if_pos (by rw [h78]; decide)]
      rfl
    · rw [if_neg (fun g => h78 (e78.mp g))]
      by_cases h68 : c = 68
      · rw [if_pos (e68.mpr h68), if_pos (by rw [h68]; decide)]
        rfl
      · rw [if_neg (fun g => h68 (e68.mp g))]
        by_cases h67 : c = 67
        · rw [if_pos (e67.mpr h67), if_pos (by rw [h67]; decide)]
          rfl
        · rw [if_neg (fun g => h67 (e67.mp g)), if_neg (by rw [decide_eq_false h78, decide_eq_false h68, decide_eq_false h67]; decide)]
          rfl
theorem drop_c {L R : List Nat} {a c : Nat} (h : L.drop a = c :: R) : a < L.length ∧ L.getD a 0 = c ∧ L.drop (a + 1) = R := by
  have h1 : a < L.length := by
    rcases Nat.lt_or_ge a L.length with h2 | h2
    · exact h2
    · rw [List.drop_eq_nil_of_le h2] at h
      cases h
  rw [List.drop_eq_getElem_cons h1] at h
  injection h with h2 h3
  refine ⟨h1, ?_, h3⟩
  rw [List.getD_eq_getElem?_getD, List.getElem?_eq_getElem h1]
  exact h2
theorem L_fits {T : Nat → Int32} {n : Nat} {v : gV} (h : TX T n v) {i : Nat} (hi : i < 10) : ∀ (L : List Nat) (a fuel p r : Nat) (N : Nat → Int32), (fm i).drop a = L → a + L.length = (fm i).length → L.length < fuel → p ≤ n → r ≤ 4 → p_X7_fits_4 i fuel (nI r) (nI a) (cS v p N) ∧ f_X7_fits_4 i fuel (nI r) (nI a) (cS v p N) = (if (ft T n L p r N).1 = true then nI 1 else nI 0, cS v (ft T n L p r N).2.1 (ft T n L p r N).2.2) ∧ (ft T n L p r N).2.1 ≤ n ∧ p ≤ (ft T n L p r N).2.1 := by
  have hm := fm_max i hi
  have hl := fm_len i hi
  intro L
  induction L with
  | nil =>
    intro a fuel p r N hd ha hf hp hr
    obtain ⟨fuel, rfl⟩ : ∃ m, fuel = m + 1 := ⟨fuel - 1, by have : ([] : List Nat).length = 0 := rfl; omega⟩
    have ha : a + 0 = (fm i).length := ha
    have c1 : nI (gLen.getD i 0) ≤ nI a := by rw [hl, le_n (by omega) (by omega)]; omega
    rw [p_X7_fits_4, f_X7_fits_4]
    exact ⟨⟨fun _ => trivial, fun g => absurd c1 g⟩, if_pos c1, hp, Nat.le_refl _⟩
  | cons c L ih =>
    intro a fuel p r N hd ha hf hp hr
    obtain ⟨fuel, rfl⟩ : ∃ m, fuel = m + 1 := ⟨fuel - 1, by have : (c :: L).length = L.length + 1 := rfl; omega⟩
    have ha : a + (L.length + 1) = (fm i).length := ha
    have hf : L.length + 1 < fuel + 1 := hf
    obtain ⟨d1, d2, d3⟩ := drop_c hd
    have c1 : ¬ nI (gLen.getD i 0) ≤ nI a := by rw [hl, le_n (by omega) (by omega)]; omega
    have hv : vp_in (nI a) (gLen.getD i 0) := vi_n (by rw [hl]; exact d1) (by rw [hl]; omega)
    have hb : (gByt.getD i []).getD (nI a).toNatClampNeg 0 = nI c := by rw [cl_n (by omega), fm_byt i hi a d1, d2]
    have hc : c < 128 := fm_ch i hi c (by
      have := List.getElem_mem d1
      rw [List.getD_eq_getElem?_getD, List.getElem?_eq_getElem d1] at d2
      have d2 : (fm i)[a] = c := d2
      rw [d2] at this
      exact this)
    obtain ⟨k1, k2⟩ := K_readSign h p hp N c hc
    rw [p_X7_fits_4, f_X7_fits_4, hb, if_neg c1]
    unfold ft
    cases hrs : rs T n p c with
    | none =>
      rw [hrs] at k2
      have k2 : f_X7_readSign (nI c) (cS v p N) = ((-1 : Int32), cS v p N) := k2
      rw [k2]
      refine ⟨⟨fun g => absurd g c1, fun _ => ⟨hv, k1, ?_⟩⟩, ?_, hp, Nat.le_refl _⟩
      · rw [p_X7_fits_21]
        exact ⟨fun g => absurd g m1_neg, fun _ => trivial⟩
      · rw [f_X7_fits_21, if_neg m1_neg]
        rfl
    | some xq =>
      obtain ⟨x, q⟩ := xq
      rw [hrs] at k2
      have k2 : f_X7_readSign (nI c) (cS v p N) = (x, cS v q N) := k2
      obtain ⟨q1, q2, q3, m, q4, rfl⟩ := rs_n hc hrs
      have x0 : (0 : Int32) ≤ nI m := nI_nn0 (by omega)
      obtain ⟨l1, l2⟩ := K_isPlaceholder c hc (cS v q N)
      rw [k2]
      have hadd : nI a + 1 = nI (a + 1) := by rw [li_1, nI_add]
      have hradd : nI r + (1 : Int32) = nI (r + 1) := by rw [li_1, nI_add]
      by_cases hP : isP c = true ∧ r < 4
      · obtain ⟨z1, z2, z3, z4⟩ := ih (a + 1) fuel q (r + 1) (upd N r (nI m)) d3 (by omega) (by omega) q2 (by omega)
        have hr4 : ¬ (4 : Int32) ≤ nI r := by rw [li_4, le_n (by omega) (by omega)]; omega
        have hnum : vM (cS v q N) 556 (nI r).toNatClampNeg (nI m) = cS v q (upd N r (nI m)) := by rw [cl_n (by omega), cS_num]
        have l2 : f_X7_isPlaceholder (nI c) (cS v q N) = nI 1 := by rw [l2, if_pos hP.1]
        have hE : (Option.some ((nI m, q) : Int32 × Nat)).elim (false, p, N) (fun xq => if isP c = true ∧ r < 4 then ft T n L xq.2 (r + 1) (upd N r xq.1) else ft T n L xq.2 r N) = ft T n L q (r + 1) (upd N r (nI m)) := if_pos hP
        rw [hE]
        refine ⟨⟨fun g => absurd g c1, fun _ => ⟨hv, k1, ?_⟩⟩, ?_, z3, by omega⟩
        · rw [p_X7_fits_21, hb, l2]
          refine ⟨fun _ => ⟨hv, l1, fun g => absurd g n10, fun _ => ⟨fun g => absurd g hr4, fun _ => ⟨vi_n hP.2 (by omega), ?_⟩⟩⟩, fun g => absurd x0 g⟩
          rw [hnum, p_X7_fits_54, p_X7_fits_57, hadd, hradd]
          exact z1
        · rw [f_X7_fits_21, if_pos x0, hb, l2, hnum]
          have g0 : ¬ nI 1 = 0 := n10
          rw [if_neg g0, if_neg hr4, f_X7_fits_54, f_X7_fits_57, hadd, hradd]
          exact z2
      · obtain ⟨z1, z2, z3, z4⟩ := ih (a + 1) fuel q r N d3 (by omega) (by omega) q2 hr
        have hE : (Option.some ((nI m, q) : Int32 × Nat)).elim (false, p, N) (fun xq => if isP c = true ∧ r < 4 then ft T n L xq.2 (r + 1) (upd N r xq.1) else ft T n L xq.2 r N) = ft T n L q r N := if_neg hP
        rw [hE]
        by_cases hP1 : isP c = true
        · have hr4 : (4 : Int32) ≤ nI r := by
            rw [li_4, le_n (by omega) (by omega)]
            rcases Nat.lt_or_ge r 4 with g | g
            · exact absurd ⟨hP1, g⟩ hP
            · exact g
          have l2 : f_X7_isPlaceholder (nI c) (cS v q N) = nI 1 := by rw [l2, if_pos hP1]
          refine ⟨⟨fun g => absurd g c1, fun _ => ⟨hv, k1, ?_⟩⟩, ?_, z3, by omega⟩
          · rw [p_X7_fits_21, hb, l2]
            refine ⟨fun _ => ⟨hv, l1, fun g => absurd g n10, fun _ => ⟨fun _ => ?_, fun g => absurd hr4 g⟩⟩, fun g => absurd x0 g⟩
            rw [p_X7_fits_57, hadd]
            exact z1
          · rw [f_X7_fits_21, if_pos x0, hb, l2]
            have g0 : ¬ nI 1 = 0 := n10
            rw [if_neg g0, if_pos hr4, f_X7_fits_57, hadd]
            exact z2
        · have l2 : f_X7_isPlaceholder (nI c) (cS v q N) = nI 0 := by rw [l2, if_neg hP1]
          have g0 : nI 0 = 0 := rfl
          refine ⟨⟨fun g => absurd g c1, fun _ => ⟨hv, k1, ?_⟩⟩, ?_, z3, by omega⟩
          · rw [p_X7_fits_21, hb, l2]
            refine ⟨fun _ => ⟨hv, l1, fun _ => ?_, fun g => absurd g0 g⟩, fun g => absurd x0 g⟩
            rw [p_X7_fits_57, hadd]
            exact z1
          · rw [f_X7_fits_21, if_pos x0, hb, l2, if_pos g0, f_X7_fits_57, hadd]
            exact z2
theorem K_fits {T : Nat → Int32} {n : Nat} {v : gV} (h : TX T n v) {i : Nat} (hi : i < 10) (p : Nat) (hp : p ≤ n) (N : Nat → Int32) : p_X7_fits i (cS v p N) ∧ f_X7_fits i (cS v p N) = (if (ft T n (fm i) p 0 N).1 = true then nI 1 else nI 0, cS v (ft T n (fm i) p 0 N).2.1 (ft T n (fm i) p 0 N).2.2) ∧ (ft T n (fm i) p 0 N).2.1 ≤ n ∧ p ≤ (ft T n (fm i) p 0 N).2.1 := by
  have hm := fm_max i hi
  exact L_fits h hi (fm i) 0 5000 p 0 N rfl (by omega) (by omega) hp (by omega)
