/-! the triangle -/
theorem i64_add {a b : Int32} (h1 : -2147483648 ≤ a.toInt + b.toInt) (h2 : a.toInt + b.toInt < 2147483648) : a.toInt64 + b.toInt64 = (a + b).toInt64 := by
  apply Int64.toInt_inj.mp
  rw [Int64.toInt_add, Int32.toInt_toInt64, Int32.toInt_toInt64, Int32.toInt_toInt64, ti_add h1 h2]
  exact Int.bmod_eq_of_le (by omega) (by omega)
def tA (w : Nat → Int32) (p m i : Nat) (a : Int32) : Int32 := lp (fun i a => a + w (264 + 6 * p + i)) m i a
def tt (w : Nat → Int32) (p d : Nat) : Int32 := tA w p (d + 1) 0 (nI 0)
def tsA (w : Nat → Int32) (d m p : Nat) (a : Int32) : Int32 := lp (fun p a => a + tt w p d) m p a
def tsP (w : Nat → Int32) (P d : Nat) : Int32 := tsA w d P 0 (nI 0)
def WFb (w : Nat → Int32) : Prop := ∀ p d, p < 6 → d < 6 → 0 ≤ (w (264 + 6 * p + d)).toInt ∧ (w (264 + 6 * p + d)).toInt ≤ 3960000
theorem WFe_b {B : Nat} {w : Nat → Int32} (hB : B < 40000) (h : WFe B w) : WFb w := fun p d hp hd => by
  have h1 := h p d hp hd
  omega
theorem tt_b {w : Nat → Int32} (h : WFb w) {p : Nat} (hp : p < 6) : ∀ m : Nat, m ≤ 6 → 0 ≤ (tA w p m 0 (nI 0)).toInt ∧ (tA w p m 0 (nI 0)).toInt ≤ 3960000 * m := by
  intro m
  induction m with
  | zero =>
    intro _
    have e : tA w p 0 0 (nI 0) = nI 0 := rfl
    rw [e]
    exact ⟨by decide +kernel, by decide +kernel⟩
  | succ m ih =>
    intro hm
    obtain ⟨h1, h2⟩ := ih (by omega)
    obtain ⟨h3, h4⟩ := h p m hp (by omega)
    have e : tA w p (m + 1) 0 (nI 0) = tA w p m 0 (nI 0) + w (264 + 6 * p + m) := by
      unfold tA
      rw [lp_last, Nat.zero_add]
    rw [e, ti_add (by omega) (by omega)]
    omega
theorem tsP_b {w : Nat → Int32} (h : WFb w) {d : Nat} (hd : d < 6) : ∀ m : Nat, m ≤ 6 → 0 ≤ (tsP w m d).toInt ∧ (tsP w m d).toInt ≤ 23760000 * m := by
  intro m
  induction m with
  | zero =>
    intro _
    have e : tsP w 0 d = nI 0 := rfl
    rw [e]
    exact ⟨by decide +kernel, by decide +kernel⟩
  | succ m ih =>
    intro hm
    obtain ⟨h1, h2⟩ := ih (by omega)
    obtain ⟨h3, h4⟩ := tt_b h (p := m) (by omega) (d + 1) (by omega)
    have e : tsP w (m + 1) d = tsP w m d + tt w m d := by
      unfold tsP tsA
      rw [lp_last, Nat.zero_add]
    have h3' : 0 ≤ (tt w m d).toInt := h3
    have h4' : (tt w m d).toInt ≤ 3960000 * ((d + 1 : Nat) : Int) := h4
    rw [e, ti_add (by omega) (by omega)]
    omega
theorem L_X12_total {u : gV} {w : Nat → Int32} (hw : u.1 560 = w) {p d : Nat} (hp : p < 6) (hd : d < 6) : ∀ (m i fuel : Nat) (a : Int32), i + m = d + 1 → m < fuel → p_X12_total_5 fuel (nI p) (nI d) a (nI i) u ∧ f_X12_total_5 fuel (nI p) (nI d) a (nI i) u = tA w p m i a := by
  intro m
  induction m with
  | zero =>
    intro i fuel a hk hf
    obtain ⟨f, rfl⟩ := fuel_s hf
    have hlt : nI d < nI i := by rw [lt_n (by omega) (by omega)]; omega
    rw [p_X12_total_5, f_X12_total_5, if_pos hlt]
    exact ⟨⟨fun _ => trivial, fun h => absurd hlt h⟩, rfl⟩
  | succ m ih =>
    intro i fuel a hk hf
    obtain ⟨f, rfl⟩ := fuel_s hf
    have hlt : ¬ nI d < nI i := by rw [lt_n (by omega) (by omega)]; omega
    have hi := ih (i + 1) f (a + w (264 + 6 * p + i)) (by omega) (by omega)
    have hc : f_X12_cell (nI p) (nI i) u = w (264 + 6 * p + i) := by rw [F_X12_cell u (by omega), hw]
    rw [p_X12_total_5, f_X12_total_5, if_neg hlt, hc, nI_1]
    exact ⟨⟨fun h => absurd h hlt, fun _ => ⟨P_X12_cell u (by omega), hi.1⟩⟩, hi.2⟩
theorem K_X12_total {u : gV} {w : Nat → Int32} (hw : u.1 560 = w) {p d : Nat} (hp : p < 6) (hd : d < 6) : p_X12_total (nI p) (nI d) u ∧ f_X12_total (nI p) (nI d) u = tt w p d := L_X12_total hw hp hd (d + 1) 0 5000 (nI 0) (by omega) (by omega)
theorem L_X9_total {v : gV} {w : Nat → Int32} (be : BRe v 1 w) {p d : Nat} (hp : p < 6) (hd : d < 6) : ∀ (m i fuel : Nat) (a : Int32), i + m = d + 1 → m < fuel → p_X9_totalOf_5 1 fuel (nI p) (nI d) a (nI i) v ∧ f_X9_totalOf_5 1 fuel (nI p) (nI d) a (nI i) v = tA w p m i a := by
  intro m
  induction m with
  | zero =>
    intro i fuel a hk hf
    obtain ⟨f, rfl⟩ := fuel_s hf
    have hlt : nI d < nI i := by rw [lt_n (by omega) (by omega)]; omega
    rw [p_X9_totalOf_5, f_X9_totalOf_5, if_pos hlt]
    exact ⟨⟨fun _ => trivial, fun h => absurd hlt h⟩, rfl⟩
  | succ m ih =>
    intro i fuel a hk hf
    obtain ⟨f, rfl⟩ := fuel_s hf
    have hlt : ¬ nI d < nI i := by rw [lt_n (by omega) (by omega)]; omega
    have h6 : ¬ (6 : Int32) ≤ nI i := nI_ge (b := 6) (by omega) (by omega)
    have hi := ih (i + 1) f (a + w (264 + 6 * p + i)) (by omega) (by omega)
    have hc : v.1 (1 + 38 + 1 + (nI p).toNatClampNeg) (nI i).toNatClampNeg = w (264 + 6 * p + i) := by
      rw [cl_n (by omega), cl_n (by omega), show 1 + 38 + 1 + p = 1 + 39 + p by omega]
      exact be p i hp (by omega)
    rw [p_X9_totalOf_5, f_X9_totalOf_5, if_neg hlt, if_neg h6, hc, nI_1]
    exact ⟨⟨fun h => absurd h hlt, fun _ => ⟨fun h => absurd h h6, fun _ => ⟨vi_n (by omega) (by omega), vi_n (by omega) (by omega), hi.1⟩⟩⟩, hi.2⟩
theorem K_X9_total {v : gV} {w : Nat → Int32} (be : BRe v 1 w) {p d : Nat} (hp : p < 6) (hd : d < 6) : p_X9_totalOf 1 (nI p) (nI d) v ∧ f_X9_totalOf 1 (nI p) (nI d) v = tt w p d := L_X9_total be hp hd (d + 1) 0 5000 (nI 0) (by omega) (by omega)
theorem L_X12_totals {u : gV} {w : Nat → Int32} (hw : u.1 560 = w) {L d come : Nat} (hL : lat w = nI L) (hL5 : L ≤ 5) (hd : d < 6) (hc : 1 ≤ come) (hc2 : come < 100) : ∀ (m p fuel : Nat) (a : Int32), p + m = L + 1 - come → m < fuel → p_X12_totals_5 fuel (nI d) (nI come) a (nI p) u ∧ f_X12_totals_5 fuel (nI d) (nI come) a (nI p) u = tsA w d m p a := by
  have hl : f_X12_latest u = nI L := by rw [F_X12_latest, hw, hL]
  intro m
  induction m with
  | zero =>
    intro p fuel a hk hf
    obtain ⟨f, rfl⟩ := fuel_s hf
    have hlt : nI L < nI p + nI come := by rw [nI_add, lt_n (by omega) (by omega)]; omega
    rw [p_X12_totals_5, f_X12_totals_5, hl, if_pos hlt]
    exact ⟨⟨P_X12_latest u, fun _ => trivial, fun h => absurd hlt h⟩, rfl⟩
  | succ m ih =>
    intro p fuel a hk hf
    obtain ⟨f, rfl⟩ := fuel_s hf
    have hlt : ¬ nI L < nI p + nI come := by rw [nI_add, lt_n (by omega) (by omega)]; omega
    obtain ⟨k1, k2⟩ := K_X12_total hw (p := p) (d := d) (by omega) hd
    have hi := ih (p + 1) f (a + tt w p d) (by omega) (by omega)
    rw [p_X12_totals_5, f_X12_totals_5, hl, if_neg hlt, k2, nI_1]
    exact ⟨⟨P_X12_latest u, fun h => absurd h hlt, fun _ => ⟨k1, hi.1⟩⟩, hi.2⟩
theorem K_X12_totals {u : gV} {w : Nat → Int32} (hw : u.1 560 = w) {L d come : Nat} (hL : lat w = nI L) (hL5 : L ≤ 5) (hd : d < 6) (hc : 1 ≤ come) (hc2 : come < 100) : p_X12_totals (nI d) (nI come) u ∧ f_X12_totals (nI d) (nI come) u = tsP w (L + 1 - come) d := L_X12_totals hw hL hL5 hd hc hc2 (L + 1 - come) 0 5000 (nI 0) (by omega) (by omega)
theorem L_X9_totP {v : gV} {w : Nat → Int32} (be : BRe v 1 w) (hb : WFb w) {L e d : Nat} (hL5 : L ≤ 5) (he : e < 100) (hd : d < 6) : ∀ (m p fuel : Nat), p + m = L - e → m < fuel → p_X9_totalOfPeriods_5 1 fuel (nI L - nI e) (nI d) (tsP w p d).toInt64 (nI p) v ∧ f_X9_totalOfPeriods_5 1 fuel (nI L - nI e) (nI d) (tsP w p d).toInt64 (nI p) v = (tsP w (p + m) d).toInt64 := by
  have hx : (nI L - nI e).toInt = (L : Int) - e := by
    rw [ti_sub (by rw [tI (by omega), tI (by omega)]; omega) (by rw [tI (by omega), tI (by omega)]; omega), tI (by omega), tI (by omega)]
  have t6 : (6 : Int32).toInt = 6 := by decide +kernel
  have h6 : ¬ (6 : Int32) < nI L - nI e := by
    rw [i_lt, hx, t6]
    omega
  intro m
  induction m with
  | zero =>
    intro p fuel hk hf
    obtain ⟨f, rfl⟩ := fuel_s hf
    have hle : nI L - nI e ≤ nI p := by
      rw [i_le, hx, tI (by omega)]
      omega
    rw [p_X9_totalOfPeriods_5, f_X9_totalOfPeriods_5, if_neg h6, if_pos hle]
    exact ⟨⟨fun _ => trivial, fun h => absurd hle h⟩, rfl⟩
  | succ m ih =>
    intro p fuel hk hf
    obtain ⟨f, rfl⟩ := fuel_s hf
    have hle : ¬ nI L - nI e ≤ nI p := by
      rw [i_le, hx, tI (by omega)]
      omega
    obtain ⟨k1, k2⟩ := K_X9_total be (p := p) (d := d) (by omega) hd
    obtain ⟨b1, b2⟩ := tsP_b hb hd p (by omega)
    obtain ⟨b3, b4⟩ := tt_b hb (p := p) (by omega) (d + 1) (by omega)
    have b3' : 0 ≤ (tt w p d).toInt := b3
    have b4' : (tt w p d).toInt ≤ 3960000 * ((d + 1 : Nat) : Int) := b4
    have hadd : (tsP w p d).toInt64 + (tt w p d).toInt64 = (tsP w (p + 1) d).toInt64 := by
      have e2 : tsP w (p + 1) d = tsP w p d + tt w p d := by
        unfold tsP tsA
        rw [lp_last, Nat.zero_add]
      rw [e2, i64_add (by omega) (by omega)]
    have hi := ih (p + 1) f (by omega) (by omega)
    rw [show p + 1 + m = p + (m + 1) by omega] at hi
    rw [p_X9_totalOfPeriods_5, f_X9_totalOfPeriods_5, if_neg h6, if_neg hle, k2, hadd, nI_1]
    exact ⟨⟨fun h => absurd h hle, fun _ => ⟨k1, hi.1⟩⟩, hi.2⟩
theorem K_X9_totP {v : gV} {w : Nat → Int32} (be : BRe v 1 w) (hb : WFb w) {L e d : Nat} (hL5 : L ≤ 5) (he : e < 100) (hd : d < 6) : p_X9_totalOfPeriods 1 (nI L - nI e) (nI d) v ∧ f_X9_totalOfPeriods 1 (nI L - nI e) (nI d) v = (tsP w (L - e) d).toInt64 := by
  have h := L_X9_totP be hb hL5 he hd (L - e) 0 5000 (by omega) (by omega)
  rw [Nat.zero_add] at h
  exact h
/-- one delay further -/
def fac (w : Nat → Int32) (L d : Nat) (a : Int64) : Int64 := if tsP w (L - d) d ≤ 0 then a else a * (tsP w (L - d) (d + 1)).toInt64 / (tsP w (L - d) d).toInt64
theorem ge1 {a : Int32} (h : 0 ≤ a.toInt) : (0 : Int32) ≤ lg_cmp a.toInt64 (1 : Int64) ↔ ¬ a ≤ 0 := by
  have z0 : (0 : Int32).toInt = 0 := rfl
  have z1 : (1 : Int64).toInt = 1 := by decide +kernel
  rw [lg_cmp_ge, Int64.le_iff_toInt_le, Int32.toInt_toInt64, z1, i_le, z0]
  omega
theorem ne0_64 {a : Int32} (h : ¬ a ≤ 0) : ¬ a.toInt64 = 0 := by
  have z0 : (0 : Int32).toInt = 0 := rfl
  have z1 : (0 : Int64).toInt = 0 := by decide +kernel
  intro e
  have e2 : a.toInt64.toInt = (0 : Int64).toInt := by rw [e]
  rw [Int32.toInt_toInt64, z1] at e2
  rw [i_le, z0] at h
  omega
theorem K_X9_fac {v : gV} {w : Nat → Int32} (be : BRe v 1 w) (hb : WFb w) {L d : Nat} (hL5 : L ≤ 5) (hd : d < 5) (a : Int64) : p_X9_timesFactor 1 a (nI d) (nI L) v ∧ f_X9_timesFactor 1 a (nI d) (nI L) v = fac w L d a := by
  obtain ⟨k1, k2⟩ := K_X9_totP be hb (L := L) (e := d) (d := d) hL5 (by omega) (by omega)
  obtain ⟨k3, k4⟩ := K_X9_totP be hb (L := L) (e := d) (d := d + 1) hL5 (by omega) (by omega)
  have hb0 := (tsP_b hb (d := d) (by omega) (L - d) (by omega)).1
  have hg := ge1 hb0
  have e1 : nI d + (1 : Int32) = nI (d + 1) := nI_1 d
  unfold fac
  by_cases hc : tsP w (L - d) d ≤ 0
  · have hg' : ¬ (0 : Int32) ≤ lg_cmp (tsP w (L - d) d).toInt64 (1 : Int64) := fun h => hg.mp h hc
    rw [if_pos hc]
    constructor
    · show p_X9_timesFactor_0 1 a (nI d) (nI L) v
      rw [p_X9_timesFactor_0, k2]
      exact ⟨k1, fun h => absurd h hg', fun _ => trivial⟩
    · show f_X9_timesFactor_0 1 a (nI d) (nI L) v = a
      rw [f_X9_timesFactor_0, k2, if_neg hg']
  · have hg' := hg.mpr hc
    rw [if_neg hc]
    constructor
    · show p_X9_timesFactor_0 1 a (nI d) (nI L) v
      rw [p_X9_timesFactor_0, k2, e1]
      exact ⟨k1, fun _ => ⟨k3, ne0_64 hc, trivial⟩, fun h => absurd hg' h⟩
    · show f_X9_timesFactor_0 1 a (nI d) (nI L) v = _
      rw [f_X9_timesFactor_0, k2, if_pos hg', e1, k4]
def pjA (w : Nat → Int32) (L m d : Nat) (a : Int64) : Int64 := lp (fac w L) m d a
def pj (w : Nat → Int32) (L p : Nat) : Int32 := (pjA w L (5 - (L - p)) (L - p) (tt w p (L - p)).toInt64).toInt32
theorem L_X9_proj {v : gV} {w : Nat → Int32} (be : BRe v 1 w) (hb : WFb w) {L : Nat} (hL5 : L ≤ 5) : ∀ (m d fuel : Nat) (a : Int64), d + m = 5 → m < fuel → p_X9_projectByDelays_15 1 fuel (nI L) a (nI d) v ∧ f_X9_projectByDelays_15 1 fuel (nI L) a (nI d) v = (pjA w L m d a).toInt32 := by
  intro m
  induction m with
  | zero =>
    intro d fuel a hk hf
    obtain ⟨f, rfl⟩ := fuel_s hf
    have hle : (5 : Int32) ≤ nI d := nI_le (a := 5) (by omega) (by omega)
    rw [p_X9_projectByDelays_15, f_X9_projectByDelays_15, if_pos hle]
    exact ⟨⟨fun _ => trivial, fun h => absurd hle h⟩, rfl⟩
  | succ m ih =>
    intro d fuel a hk hf
    obtain ⟨f, rfl⟩ := fuel_s hf
    have hle : ¬ (5 : Int32) ≤ nI d := nI_ge (b := 5) (by omega) (by omega)
    obtain ⟨k1, k2⟩ := K_X9_fac be hb hL5 (d := d) (by omega) a
    have hi := ih (d + 1) f (fac w L d a) (by omega) (by omega)
    rw [p_X9_projectByDelays_15, f_X9_projectByDelays_15, if_neg hle, k2, nI_1]
    exact ⟨⟨fun h => absurd h hle, fun _ => ⟨k1, hi.1⟩⟩, hi.2⟩
theorem K_X9_proj {v : gV} {w : Nat → Int32} (be : BRe v 1 w) (hb : WFb w) {L p : Nat} (hL5 : L ≤ 5) (hp : p ≤ L) : p_X9_projectByDelays 1 (nI p) (nI L) v ∧ f_X9_projectByDelays 1 (nI p) (nI L) v = pj w L p := by
  obtain ⟨k1, k2⟩ := K_X9_total be (p := p) (d := L - p) (by omega) (by omega)
  obtain ⟨k3, k4⟩ := L_X9_proj be hb hL5 (5 - (L - p)) (L - p) 5000 (tt w p (L - p)).toInt64 (by omega) (by omega)
  constructor
  · show p_X9_projectByDelays_0 1 (nI p) (nI L) v
    rw [p_X9_projectByDelays_0, sub_n hp, k2]
    exact ⟨k1, k3⟩
  · show f_X9_projectByDelays_0 1 (nI p) (nI L) v = _
    rw [f_X9_projectByDelays_0, sub_n hp, k2]
    exact k4
theorem L_X9_value {v : gV} {w : Nat → Int32} (be : BRe v 1 w) (hb : WFb w) {L p : Nat} (hL5 : L ≤ 5) (hp : p ≤ L) : ∀ (m n : Nat), L - p + m ≤ 5 → m < n → p_X9_valueAt_R 1 n (nI p) (nI (L - p + m)) (nI L) v ∧ f_X9_valueAt_R 1 n (nI p) (nI (L - p + m)) (nI L) v = pjA w L m (L - p) (tt w p (L - p)).toInt64 := by
  obtain ⟨k1, k2⟩ := K_X9_total be (p := p) (d := L - p) (by omega) (by omega)
  have t0 : ∀ KS PKS, p_X9_valueAt_11 1 KS PKS (nI p) (nI L) v ∧ f_X9_valueAt_11 1 KS PKS (nI p) (nI L) v = (tt w p (L - p)).toInt64 := fun KS PKS => by
    rw [p_X9_valueAt_11, f_X9_valueAt_11, sub_n hp, k2]
    exact ⟨⟨k1, trivial⟩, rfl⟩
  intro m
  induction m with
  | zero =>
    intro n h5 hn
    obtain ⟨f, rfl⟩ := fuel_s hn
    have hlt : ¬ nI (L - p) < nI (L - p + 0) := by rw [lt_n (by omega) (by omega)]; omega
    rw [p_X9_valueAt_R, f_X9_valueAt_R, p_X9_valueAt_0, f_X9_valueAt_0, sub_n hp, if_neg hlt, (t0 _ _).2, ite_self]
    exact ⟨⟨fun _ => (t0 _ _).1, fun _ => ⟨fun h => absurd h hlt, fun _ => (t0 _ _).1⟩⟩, rfl⟩
  | succ m ih =>
    intro n h5 hn
    obtain ⟨f, rfl⟩ := fuel_s hn
    obtain ⟨q1, q2⟩ := ih f (by omega) (by omega)
    have hlt : nI (L - p) < nI (L - p + (m + 1)) := by rw [lt_n (by omega) (by omega)]; omega
    have h0 : ¬ nI (L - p + (m + 1)) ≤ 0 := by
      show ¬ nI (L - p + (m + 1)) ≤ nI 0
      rw [le_n (by omega) (by omega)]
      omega
    have e1 : nI (L - p + (m + 1)) - (1 : Int32) = nI (L - p + m) := by
      rw [li_1, sub_n (by omega)]
      congr 1
    obtain ⟨c1, c2⟩ := K_X9_fac be hb hL5 (d := L - p + m) (by omega) (pjA w L m (L - p) (tt w p (L - p)).toInt64)
    have hst : pjA w L (m + 1) (L - p) (tt w p (L - p)).toInt64 = fac w L (L - p + m) (pjA w L m (L - p) (tt w p (L - p)).toInt64) := by
      unfold pjA
      rw [lp_last]
    rw [p_X9_valueAt_R, f_X9_valueAt_R, p_X9_valueAt_0, f_X9_valueAt_0, sub_n hp, if_neg h0, if_pos hlt, e1, q2, hst]
    rw [p_X9_valueAt_31, f_X9_valueAt_31, e1, c2]
    exact ⟨⟨fun h => absurd h h0, fun _ => ⟨fun _ => ⟨q1, c1, trivial⟩, fun h => absurd hlt h⟩⟩, rfl⟩
theorem K_X9_back {v : gV} {w : Nat → Int32} (be : BRe v 1 w) (hb : WFb w) {L p : Nat} (hL5 : L ≤ 5) (hp : p ≤ L) : p_X9_projectBackwards 1 (nI p) (nI L) v ∧ f_X9_projectBackwards 1 (nI p) (nI L) v = pj w L p := by
  have h := L_X9_value be hb hL5 hp (5 - (L - p)) 8 (by omega) (by omega)
  rw [show L - p + (5 - (L - p)) = 5 by omega] at h
  have h1 : p_X9_valueAt 1 (nI p) (5 : Int32) (nI L) v := h.1
  have h2 : f_X9_valueAt 1 (nI p) (5 : Int32) (nI L) v = pjA w L (5 - (L - p)) (L - p) (tt w p (L - p)).toInt64 := h.2
  constructor
  · exact And.intro h1 trivial
  · show (f_X9_valueAt 1 (nI p) (5 : Int32) (nI L) v).toInt32 = _
    rw [h2]
    rfl
theorem L_X12_proj {u : gV} {w : Nat → Int32} (hw : u.1 560 = w) (hb : WFb w) {L : Nat} (hL : lat w = nI L) (hL5 : L ≤ 5) : ∀ (m d fuel : Nat) (a : Int64), d + m = 5 → m < fuel → p_X12_projection_21 fuel a (nI d) u ∧ f_X12_projection_21 fuel a (nI d) u = (pjA w L m d a).toInt32 := by
  intro m
  induction m with
  | zero =>
    intro d fuel a hk hf
    obtain ⟨f, rfl⟩ := fuel_s hf
    have hle : (5 : Int32) ≤ nI d := nI_le (a := 5) (by omega) (by omega)
    rw [p_X12_projection_21, f_X12_projection_21, if_pos hle]
    exact ⟨⟨fun _ => trivial, fun h => absurd hle h⟩, rfl⟩
  | succ m ih =>
    intro d fuel a hk hf
    obtain ⟨f, rfl⟩ := fuel_s hf
    have hle : ¬ (5 : Int32) ≤ nI d := nI_ge (b := 5) (by omega) (by omega)
    obtain ⟨k1, k2⟩ := K_X12_totals hw hL hL5 (d := d) (come := d + 1) (by omega) (by omega) (by omega)
    obtain ⟨k3, k4⟩ := K_X12_totals hw hL hL5 (d := d + 1) (come := d + 1) (by omega) (by omega) (by omega)
    rw [show L + 1 - (d + 1) = L - d by omega] at k2 k4
    have e1 : nI d + (1 : Int32) = nI (d + 1) := nI_1 d
    have hi := ih (d + 1) f (fac w L d a) (by omega) (by omega)
    have hst : pjA w L (m + 1) d a = pjA w L m (d + 1) (fac w L d a) := rfl
    rw [p_X12_projection_21, f_X12_projection_21, if_neg hle, hst, e1, k2, k4]
    simp only [f_X12_projection_64, p_X12_projection_64, nI_1]
    unfold fac at hi ⊢
    by_cases hc : tsP w (L - d) d ≤ 0
    · rw [if_pos hc] at hi
      rw [if_pos hc, if_pos hc]
      exact ⟨⟨fun h => absurd h hle, fun _ => ⟨k1, fun _ => hi.1, fun h => absurd hc h⟩⟩, hi.2⟩
    · rw [if_neg hc] at hi
      rw [if_neg hc, if_neg hc]
      exact ⟨⟨fun h => absurd h hle, fun _ => ⟨k1, fun h => absurd h hc, fun _ => ⟨k3, ne0_64 hc, hi.1⟩⟩⟩, hi.2⟩
theorem K_X12_proj {u : gV} {w : Nat → Int32} (hw : u.1 560 = w) (hb : WFb w) {L p : Nat} (hL : lat w = nI L) (hL5 : L ≤ 5) (hp : p ≤ L) : p_X12_projection (nI p) u ∧ f_X12_projection (nI p) u = pj w L p := by
  have hl : f_X12_latest u = nI L := by rw [F_X12_latest, hw, hL]
  obtain ⟨k1, k2⟩ := K_X12_total hw (p := p) (d := L - p) (by omega) (by omega)
  obtain ⟨k3, k4⟩ := L_X12_proj hw hb hL hL5 (5 - (L - p)) (L - p) 5000 (tt w p (L - p)).toInt64 (by omega) (by omega)
  constructor
  · show p_X12_projection_0 (nI p) u
    rw [p_X12_projection_0, hl, sub_n hp, k2]
    exact ⟨P_X12_latest u, k1, P_X12_latest u, k3⟩
  · show f_X12_projection_0 (nI p) u = _
    rw [f_X12_projection_0, hl, sub_n hp, k2]
    exact k4
theorem inb_L {x : Int32} {L : Nat} (hL : L ≤ 5) (h : inb x (nI 0) (nI L) = true) : ∃ p, p ≤ L ∧ x = nI p := inb_n (by omega) h
theorem K_projects (x : Int32) (u : gV) {w : Nat → Int32} (hw : u.1 560 = w) (hb : WFb w) {L : Nat} (hL : lat w = nI L) (hL5 : L ≤ 5) : p_X12_projects x u ∧ (inb x (nI 0) (nI L) = false → f_X12_projects x u = (nI 0, thr u (nI 1))) ∧ ∀ p, x = nI p → p ≤ L → inb x (nI 0) (nI L) = true → f_X12_projects x u = (pj w L p, thr u (nI 0)) := by
  have hl : f_X12_latest u = nI L := by rw [F_X12_latest, hw, hL]
  cases hx : inb x (nI 0) (nI L) with
  | false =>
    have hI : f_X12_in x (nI 0) (nI L) u = nI 0 := by rw [F_X12_in, hx]; rfl
    have hm : p_X12_projects x u ∧ f_X12_projects x u = (nI 0, thr u (nI 1)) := by
      simp only [f_X12_projects_25, p_X12_projects_25, f_X12_projects_13, p_X12_projects_13, f_X12_projects_0, p_X12_projects_0, f_X12_projects, p_X12_projects, li_0, hl, hI, P_X12_latest, P_X12_in, F_checked, P_checked, le10, n10, if_true, if_false, reduceIte, not_false_eq_true, not_true_eq_false, false_implies, true_implies, implies_true, and_self]
    exact ⟨hm.1, fun _ => hm.2, fun p _ _ h => by cases h⟩
  | true =>
    obtain ⟨p, hp, rfl⟩ := inb_L hL5 hx
    have hI : f_X12_in (nI p) (nI 0) (nI L) u = nI 1 := by rw [F_X12_in, hx]; rfl
    obtain ⟨k1, k2⟩ := K_X12_proj (u := thr u (nI 0)) (w := w) (by rw [thr_560]; exact hw) hb hL hL5 hp
    have hm : p_X12_projects (nI p) u ∧ f_X12_projects (nI p) u = (pj w L p, thr u (nI 0)) := by
      simp only [f_X12_projects_25, p_X12_projects_25, f_X12_projects_13, p_X12_projects_13, f_X12_projects_0, p_X12_projects_0, f_X12_projects, p_X12_projects, li_0, hl, hI, k1, k2, P_X12_latest, P_X12_in, F_checked, P_checked, le00, n10, if_true, if_false, reduceIte, not_false_eq_true, not_true_eq_false, false_implies, true_implies, implies_true, and_self]
    refine ⟨hm.1, fun h => by (cases h), fun p' e hp' _ => ?_⟩
    have : p' = p := by
      rw [eq_n (by omega) (by omega)] at e
      exact e.symm
    subst this
    exact hm.2
theorem R_projected (x : Int32) {B : Nat} (hB : B < 40000) : Rd (fun v => (f_X11_projected x v, v)) (p_X11_projected x) (f_X12_projected x) (p_X12_projected x) eA oy1 (any Int32) B := by
  intro v np nc nt no h
  have hs := h.2.1
  have hb := WFe_b hB h.2.2.2.2.2.1
  have be := h.2.2.2.2.2.2.2.2.2.2.2.1
  have s7 : v.1 1 5 = v.1 560 6 := h.2.2.2.2.2.2.2.1.2.2.2.2.2.2.1
  obtain ⟨L, hL5, hL⟩ := lat_n hs
  have hl : f_X1_latestPeriod 1 v = nI L := by rw [F_X1_latest hs s7, hL]
  have hF := F_X11_checkedNumber x (nI 0) (nI L) v
  have hP := P_X11_checkedNumber x (nI 0) (nI L) v
  have hm : ∀ u : gV, u.1 560 = v.1 560 → _ := fun u hu => K_projects x u hu hb hL hL5
  have hmP : ∀ u : gV, u.1 560 = v.1 560 → p_X12_projected x u := fun u hu => And.intro (hm u hu).1 trivial
  have hmF : ∀ u : gV, f_X12_projected x u = f_X12_projects x u := fun u => rfl
  cases hx : inb x (nI 0) (nI L) with
  | false =>
    have hF : f_X11_checkedNumber x (nI 0) (nI L) v = Sum.inr "java/lang/IllegalArgumentException" := by rw [hF, hx]; rfl
    have hf : f_X11_projected x v = Sum.inr "java/lang/IllegalArgumentException" := by simp only [f_X11_projected_21, f_X11_projected_0, f_X11_projected, li_0, hl, hF, el_r]
    refine ⟨?_, Sc.refl v, nI 1, fun _ => ⟨rfl, hf, fun u hu => ⟨hmP u hu, ?_⟩⟩, fun h => absurd h n10⟩
    · simp only [p_X11_projected_21, p_X11_projected_0, p_X11_projected, li_0, hl, hP, hF, P_X1_latest, reduceCtorEq, false_implies, implies_true, and_self]
    · rw [hmF, (hm u hu).2.1 hx]
      exact thr_Th u _
  | true =>
    obtain ⟨p, hp, rfl⟩ := inb_L hL5 hx
    have hF : f_X11_checkedNumber (nI p) (nI 0) (nI L) v = Sum.inl (nI p) := by rw [hF, hx]; rfl
    obtain ⟨k1, k2⟩ := K_X9_proj be hb hL5 hp
    have hf : f_X11_projected (nI p) v = Sum.inl (pj (v.1 560) L p) := by simp only [f_X11_projected_21, f_X11_projected_0, f_X11_projected, li_0, hl, hF, el_l, k2]
    refine ⟨?_, Sc.refl v, nI 0, fun h => absurd rfl h, fun _ => ⟨_, trivial, hf, fun u hu => ⟨hmP u hu, ?_⟩⟩⟩
    · simp only [p_X11_projected_21, p_X11_projected_0, p_X11_projected, li_0, hl, hP, hF, k1, P_X1_latest, Sum.inl.injEq, forall_eq', and_self]
    · rw [hmF, (hm u hu).2.2 p rfl hp hx]
      exact ⟨rfl, thr_Th u _⟩
theorem R_projectedByRecursion (x : Int32) {B : Nat} (hB : B < 40000) : Rd (fun v => (f_X11_projectedByRecursion x v, v)) (p_X11_projectedByRecursion x) (f_X12_projectedByRecursion x) (p_X12_projectedByRecursion x) eA oy1 (any Int32) B := by
  intro v np nc nt no h
  have hs := h.2.1
  have hb := WFe_b hB h.2.2.2.2.2.1
  have be := h.2.2.2.2.2.2.2.2.2.2.2.1
  have s7 : v.1 1 5 = v.1 560 6 := h.2.2.2.2.2.2.2.1.2.2.2.2.2.2.1
  obtain ⟨L, hL5, hL⟩ := lat_n hs
  have hl : f_X1_latestPeriod 1 v = nI L := by rw [F_X1_latest hs s7, hL]
  have hF := F_X11_checkedNumber x (nI 0) (nI L) v
  have hP := P_X11_checkedNumber x (nI 0) (nI L) v
  have hm : ∀ u : gV, u.1 560 = v.1 560 → _ := fun u hu => K_projects x u hu hb hL hL5
  have hmP : ∀ u : gV, u.1 560 = v.1 560 → p_X12_projectedByRecursion x u := fun u hu => And.intro (hm u hu).1 trivial
  have hmF : ∀ u : gV, f_X12_projectedByRecursion x u = f_X12_projects x u := fun u => rfl
  cases hx : inb x (nI 0) (nI L) with
  | false =>
    have hF : f_X11_checkedNumber x (nI 0) (nI L) v = Sum.inr "java/lang/IllegalArgumentException" := by rw [hF, hx]; rfl
    have hf : f_X11_projectedByRecursion x v = Sum.inr "java/lang/IllegalArgumentException" := by simp only [f_X11_projectedByRecursion_21, f_X11_projectedByRecursion_0, f_X11_projectedByRecursion, li_0, hl, hF, el_r]
    refine ⟨?_, Sc.refl v, nI 1, fun _ => ⟨rfl, hf, fun u hu => ⟨hmP u hu, ?_⟩⟩, fun h => absurd h n10⟩
    · simp only [p_X11_projectedByRecursion_21, p_X11_projectedByRecursion_0, p_X11_projectedByRecursion, li_0, hl, hP, hF, P_X1_latest, reduceCtorEq, false_implies, implies_true, and_self]
    · rw [hmF, (hm u hu).2.1 hx]
      exact thr_Th u _
  | true =>
    obtain ⟨p, hp, rfl⟩ := inb_L hL5 hx
    have hF : f_X11_checkedNumber (nI p) (nI 0) (nI L) v = Sum.inl (nI p) := by rw [hF, hx]; rfl
    obtain ⟨k1, k2⟩ := K_X9_back be hb hL5 hp
    have hf : f_X11_projectedByRecursion (nI p) v = Sum.inl (pj (v.1 560) L p) := by simp only [f_X11_projectedByRecursion_21, f_X11_projectedByRecursion_0, f_X11_projectedByRecursion, li_0, hl, hF, el_l, k2]
    refine ⟨?_, Sc.refl v, nI 0, fun h => absurd rfl h, fun _ => ⟨_, trivial, hf, fun u hu => ⟨hmP u hu, ?_⟩⟩⟩
    · simp only [p_X11_projectedByRecursion_21, p_X11_projectedByRecursion_0, p_X11_projectedByRecursion, li_0, hl, hP, hF, k1, P_X1_latest, Sum.inl.injEq, forall_eq', and_self]
    · rw [hmF, (hm u hu).2.2 p rfl hp hx]
      exact ⟨rfl, thr_Th u _⟩
def rsv (w : Nat → Int32) (L m p : Nat) (a : Int32) : Int32 := lp (fun p a => a + (pj w L p - tt w p 5)) m p a
theorem L_X9_unpaid {v : gV} {w : Nat → Int32} (be : BRe v 1 w) (hb : WFb w) {L : Nat} (hL5 : L ≤ 5) : ∀ (m p fuel : Nat) (a : Int32), p + m = L + 1 → m < fuel → p_X9_sumOfUnpaid_4 1 fuel (nI L) a (nI p) v ∧ f_X9_sumOfUnpaid_4 1 fuel (nI L) a (nI p) v = rsv w L m p a := by
  have h5 : ¬ (5 : Int32) < nI L := by
    show ¬ nI 5 < nI L
    rw [lt_n (by omega) (by omega)]
    omega
  intro m
  induction m with
  | zero =>
    intro p fuel a hk hf
    obtain ⟨f, rfl⟩ := fuel_s hf
    have hlt : nI L < nI p := by rw [lt_n (by omega) (by omega)]; omega
    rw [p_X9_sumOfUnpaid_4, f_X9_sumOfUnpaid_4, if_neg h5, if_pos hlt]
    exact ⟨⟨fun _ => trivial, fun h => absurd hlt h⟩, rfl⟩
  | succ m ih =>
    intro p fuel a hk hf
    obtain ⟨f, rfl⟩ := fuel_s hf
    have hlt : ¬ nI L < nI p := by rw [lt_n (by omega) (by omega)]; omega
    obtain ⟨k1, k2⟩ := K_X9_proj be hb hL5 (p := p) (by omega)
    obtain ⟨k3, k4⟩ := K_X9_total be (p := p) (d := 5) (by omega) (by omega)
    have k3' : p_X9_totalOf 1 (nI p) (5 : Int32) v := k3
    have k4' : f_X9_totalOf 1 (nI p) (5 : Int32) v = tt w p 5 := k4
    have hi := ih (p + 1) f (a + (pj w L p - tt w p 5)) (by omega) (by omega)
    rw [p_X9_sumOfUnpaid_4, f_X9_sumOfUnpaid_4, if_neg h5, if_neg hlt, k2, k4', nI_1]
    exact ⟨⟨fun h => absurd h hlt, fun _ => ⟨k1, k3', hi.1⟩⟩, hi.2⟩
theorem L_X12_reserve {u : gV} {w : Nat → Int32} (hw : u.1 560 = w) (hb : WFb w) {L : Nat} (hL : lat w = nI L) (hL5 : L ≤ 5) : ∀ (m p fuel : Nat) (a : Int32), p + m = L + 1 → m < fuel → p_X12_reserve_9 fuel a (nI p) u ∧ f_X12_reserve_9 fuel a (nI p) u = (rsv w L m p a, u) := by
  have hl : f_X12_latest u = nI L := by rw [F_X12_latest, hw, hL]
  intro m
  induction m with
  | zero =>
    intro p fuel a hk hf
    obtain ⟨f, rfl⟩ := fuel_s hf
    have hlt : nI L < nI p := by rw [lt_n (by omega) (by omega)]; omega
    rw [p_X12_reserve_9, f_X12_reserve_9, hl, if_pos hlt]
    exact ⟨⟨P_X12_latest u, fun _ => trivial, fun h => absurd hlt h⟩, rfl⟩
  | succ m ih =>
    intro p fuel a hk hf
    obtain ⟨f, rfl⟩ := fuel_s hf
    have hlt : ¬ nI L < nI p := by rw [lt_n (by omega) (by omega)]; omega
    obtain ⟨k1, k2⟩ := K_X12_proj hw hb hL hL5 (p := p) (by omega)
    obtain ⟨k3, k4⟩ := K_X12_total hw (p := p) (d := 5) (by omega) (by omega)
    have k3' : p_X12_total (nI p) (5 : Int32) u := k3
    have k4' : f_X12_total (nI p) (5 : Int32) u = tt w p 5 := k4
    have hi := ih (p + 1) f (a + (pj w L p - tt w p 5)) (by omega) (by omega)
    rw [p_X12_reserve_9, f_X12_reserve_9, hl, if_neg hlt, k2, k4', nI_1]
    exact ⟨⟨P_X12_latest u, fun h => absurd h hlt, fun _ => ⟨k1, k3', hi.1⟩⟩, hi.2⟩
theorem R_reserve {B : Nat} (hB : B < 40000) : Pl f_X11_reserve p_X11_reserve f_X12_reserve p_X12_reserve B := by
  intro v np nc nt no h
  have hs := h.2.1
  have hb := WFe_b hB h.2.2.2.2.2.1
  have be := h.2.2.2.2.2.2.2.2.2.2.2.1
  have s7 : v.1 1 5 = v.1 560 6 := h.2.2.2.2.2.2.2.1.2.2.2.2.2.2.1
  obtain ⟨L, hL5, hL⟩ := lat_n hs
  have hl : f_X1_latestPeriod 1 v = nI L := by rw [F_X1_latest hs s7, hL]
  obtain ⟨a1, a2⟩ := L_X9_unpaid be hb hL5 (L + 1) 0 5000 (nI 0) (by omega) (by omega)
  obtain ⟨b1, b2⟩ := L_X12_reserve (u := thr v (nI 0)) (w := v.1 560) (thr_560 v _) hb hL hL5 (L + 1) 0 5000 (nI 0) (by omega) (by omega)
  have c1 : p_X9_sumOfUnpaid 1 (nI L) v := a1
  have c2 : f_X11_reserve v = rsv (v.1 560) L (L + 1) 0 (nI 0) := by
    show f_X9_sumOfUnpaid 1 (f_X1_latestPeriod 1 v) v = _
    rw [hl]
    exact a2
  refine ⟨?_, b1, ?_⟩
  · show p_X1_latestPeriod 1 v ∧ (p_X9_sumOfUnpaid 1 (f_X1_latestPeriod 1 v) v ∧ True)
    rw [hl]
    exact ⟨P_X1_latest v, c1, trivial⟩
  · rw [c2]
    exact b2
/-- both projections agree -/
theorem L_agreeP {v : gV} {w : Nat → Int32} (be : BRe v 1 w) (hb : WFb w) {L : Nat} (hL5 : L ≤ 5) : ∀ (m p fuel : Nat), p + m = L + 1 → m < fuel → p_X1_projectionsAgree_7 1 fuel (nI L) (nI p) v ∧ f_X1_projectionsAgree_7 1 fuel (nI L) (nI p) v = 1 := by
  intro m
  induction m with
  | zero =>
    intro p fuel hk hf
    obtain ⟨f, rfl⟩ := fuel_s hf
    have hlt : nI L < nI p := by rw [lt_n (by omega) (by omega)]; omega
    rw [p_X1_projectionsAgree_7, f_X1_projectionsAgree_7, if_pos hlt]
    exact ⟨⟨fun _ => trivial, fun h => absurd hlt h⟩, rfl⟩
  | succ m ih =>
    intro p fuel hk hf
    obtain ⟨f, rfl⟩ := fuel_s hf
    have hlt : ¬ nI L < nI p := by rw [lt_n (by omega) (by omega)]; omega
    obtain ⟨k1, k2⟩ := K_X9_proj be hb hL5 (p := p) (by omega)
    obtain ⟨k3, k4⟩ := K_X9_back be hb hL5 (p := p) (by omega)
    have hi := ih (p + 1) f (by omega) (by omega)
    rw [p_X1_projectionsAgree_7, f_X1_projectionsAgree_7, if_neg hlt, k2, k4, if_pos rfl, nI_1]
    exact ⟨⟨fun h => absurd h hlt, fun _ => ⟨k1, k3, fun _ => hi.1, fun h => absurd rfl h⟩⟩, hi.2⟩
