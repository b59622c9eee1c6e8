/-! means: neither quotient is NaN -/
theorem f32 : FP.Core.Fmt.tails FP.Core.b32 = 8388608 ∧ FP.Core.Fmt.exps FP.Core.b32 = 256 ∧ FP.Core.Fmt.qmin FP.Core.b32 = -149 ∧ FP.Core.Fmt.qmax FP.Core.b32 = 104 ∧ 2 ^ FP.Core.b32.p = 16777216 := by decide +kernel
theorem f64 : FP.Core.Fmt.tails FP.Core.b64 = 4503599627370496 ∧ FP.Core.Fmt.exps FP.Core.b64 = 2048 ∧ FP.Core.Fmt.qmin FP.Core.b64 = -1074 ∧ FP.Core.Fmt.qmax FP.Core.b64 = 971 ∧ 2 ^ FP.Core.b64.p = 9007199254740992 := by decide +kernel
def okD (f : FP.Core.Fmt) (d : FP.Core.Datum) : Prop := d = .inf false ∨ ∃ c q, d = .fin false c q ∧ c < 2 ^ f.p ∧ q ≤ f.qmax
theorem okD_round (f : FP.Core.Fmt) (h1 : 0 < 2 ^ f.p) (h2 : f.tails < 2 ^ f.p) (h3 : f.qmin ≤ f.qmax) (n d : Nat) (e : Int) : okD f (FP.Core.roundRatio f false n d e) := by
  have hb : ∀ (c : Nat) (q : Int), c < 2 ^ f.p → okD f (FP.Core.bound f false c q) := fun c q hc => by
    unfold FP.Core.bound
    by_cases h : q ≤ f.qmax
    · rw [if_pos h]
      exact Or.inr ⟨c, q, rfl, hc, h⟩
    · rw [if_neg h]
      exact Or.inl rfl
  unfold FP.Core.roundRatio
  by_cases hn : n = 0
  · rw [if_pos hn]
    exact Or.inr ⟨0, f.qmin, rfl, h1, h3⟩
  · rw [if_neg hn]
    unfold FP.Core.roundAt FP.Core.settle
    split
    · exact hb _ _ (by assumption)
    · exact hb _ _ h2
theorem okD32 (n d : Nat) (e : Int) : okD FP.Core.b32 (FP.Core.roundRatio FP.Core.b32 false n d e) := by
  obtain ⟨a1, a2, a3, a4, a5⟩ := f32
  exact okD_round _ (by rw [a5]; decide) (by rw [a1, a5]; decide) (by rw [a3, a4]; decide) n d e
theorem okD64 (n d : Nat) (e : Int) : okD FP.Core.b64 (FP.Core.roundRatio FP.Core.b64 false n d e) := by
  obtain ⟨a1, a2, a3, a4, a5⟩ := f64
  exact okD_round _ (by rw [a5]; decide) (by rw [a1, a5]; decide) (by rw [a3, a4]; decide) n d e
theorem enc_fin (f : FP.Core.Fmt) (c : Nat) (q : Int) : FP.Core.encode f (.fin false c q) = if c < f.tails then c else ((q - f.qmin).toNat + 1) * f.tails + (c - f.tails) := by
  have e0 : false.toNat = 0 := rfl
  show (if c < f.tails then FP.Core.assemble f false 0 c else FP.Core.assemble f false ((q - f.qmin).toNat + 1) (c - f.tails)) = _
  unfold FP.Core.assemble
  rw [e0, Nat.zero_mul, Nat.zero_add, Nat.zero_mul, Nat.zero_add, Nat.zero_add]
theorem enc_inf (f : FP.Core.Fmt) : FP.Core.encode f (.inf false) = (f.exps - 1) * f.tails := by
  have e0 : false.toNat = 0 := rfl
  show FP.Core.assemble f false (f.exps - 1) 0 = _
  unfold FP.Core.assemble
  rw [e0, Nat.zero_mul, Nat.zero_add, Nat.add_zero]
theorem enc32 {d : FP.Core.Datum} (h : okD FP.Core.b32 d) : FP.Core.encode FP.Core.b32 d ≤ 2139095040 := by
  obtain ⟨a1, a2, a3, a4, a5⟩ := f32
  rcases h with rfl | ⟨c, q, rfl, h1, h2⟩
  · rw [enc_inf, a1, a2]
    decide
  · rw [enc_fin, a1, a3]
    rw [a5] at h1
    rw [a4] at h2
    split <;> omega
theorem enc64 {d : FP.Core.Datum} (h : okD FP.Core.b64 d) : FP.Core.encode FP.Core.b64 d ≤ 9218868437227405312 := by
  obtain ⟨a1, a2, a3, a4, a5⟩ := f64
  rcases h with rfl | ⟨c, q, rfl, h1, h2⟩
  · rw [enc_inf, a1, a2]
    decide
  · rw [enc_fin, a1, a3]
    rw [a5] at h1
    rw [a4] at h2
    split <;> omega
/-- what such bits stand for -/
def okB (d : FP.Core.Datum) : Prop := d = .inf false ∨ ∃ c q, d = .fin false c q
theorem dec32 {n : Nat} (h : n ≤ 2139095040) : okB (FP.Core.decode FP.Core.b32 n) := by
  obtain ⟨a1, a2, a3, a4, a5⟩ := f32
  have hs : FP.Core.fieldS FP.Core.b32 n = false := by
    unfold FP.Core.fieldS
    rw [a1, a2]
    have : n / 8388608 / 256 % 2 = 0 := by omega
    rw [this]
    rfl
  unfold FP.Core.decode
  rw [hs]
  split
  · rename_i h1
    unfold FP.Core.fieldE at h1
    rw [a1, a2] at h1
    have ht : FP.Core.fieldT FP.Core.b32 n = 0 := by
      unfold FP.Core.fieldT
      rw [a1]
      omega
    rw [if_pos ht]
    exact Or.inl rfl
  · split
    · exact Or.inr ⟨_, _, rfl⟩
    · exact Or.inr ⟨_, _, rfl⟩
theorem dec64 {n : Nat} (h : n ≤ 9218868437227405312) : okB (FP.Core.decode FP.Core.b64 n) := by
  obtain ⟨a1, a2, a3, a4, a5⟩ := f64
  have hs : FP.Core.fieldS FP.Core.b64 n = false := by
    unfold FP.Core.fieldS
    rw [a1, a2]
    have : n / 4503599627370496 / 2048 % 2 = 0 := by omega
    rw [this]
    rfl
  unfold FP.Core.decode
  rw [hs]
  split
  · rename_i h1
    unfold FP.Core.fieldE at h1
    rw [a1, a2] at h1
    have ht : FP.Core.fieldT FP.Core.b64 n = 0 := by
      unfold FP.Core.fieldT
      rw [a1]
      omega
    rw [if_pos ht]
    exact Or.inl rfl
  · split
    · exact Or.inr ⟨_, _, rfl⟩
    · exact Or.inr ⟨_, _, rfl⟩
theorem cmp_self (x : Int) : compare x x = .eq := by
  show compareOfLessAndEq x x = .eq
  unfold compareOfLessAndEq
  rw [if_neg (Int.lt_irrefl x), if_pos rfl]
theorem ord_self {d : FP.Core.Datum} (h : okB d) : FP.Core.order d d = some .eq := by
  rcases h with rfl | ⟨c, q, rfl⟩
  · show some (compare (FP.Core.signed false 1) (FP.Core.signed false 1)) = some .eq
    rw [cmp_self]
  · show some (compare (FP.Core.signed false (FP.Core.inUnits c q (min q q))) (FP.Core.signed false (FP.Core.inUnits c q (min q q)))) = some .eq
    rw [cmp_self]
def num0 (d : FP.Core.Datum) : Bool := match d with
  | .fin false _ _ => true
  | _ => false
def num1 (d : FP.Core.Datum) : Bool := match d with
  | .fin false c _ => !decide (c = 0)
  | _ => false
theorem num0_t {d : FP.Core.Datum} (h : num0 d = true) : ∃ c q, d = .fin false c q := by
  match d, h with
  | .fin false c q, _ => exact ⟨c, q, rfl⟩
theorem num1_t {d : FP.Core.Datum} (h : num1 d = true) : ∃ c q, d = .fin false c q ∧ ¬ c = 0 := by
  match d, h with
  | .fin false c q, h =>
    have h : (!decide (c = 0)) = true := h
    rw [Bool.not_eq_true', decide_eq_false_iff_not] at h
    exact ⟨c, q, rfl, h⟩
set_option maxRecDepth 100000 in
theorem i2f_num : ∀ k, k < 1189 → num0 (FP.Core.decode FP.Core.b32 (FP.i2f (nI k)).toNat) = true ∧ (1 ≤ k → num1 (FP.Core.decode FP.Core.b32 (FP.i2f (nI k)).toNat) = true) := by decide +kernel
set_option maxRecDepth 100000 in
theorem i2d_num : ∀ k, k < 241 → num0 (FP.Core.decode FP.Core.b64 (FP.i2d (nI k)).toNat) = true ∧ (1 ≤ k → num1 (FP.Core.decode FP.Core.b64 (FP.i2d (nI k)).toNat) = true) := by decide +kernel
theorem fdiv_ok {a b : Nat} (ha : a < 1189) (hb : b < 1189) (h1 : 1 ≤ b) : (FP.fdiv (FP.i2f (nI a)) (FP.i2f (nI b))).toNat ≤ 2139095040 := by
  obtain ⟨c, q, e1⟩ := num0_t (i2f_num a ha).1
  obtain ⟨d, r, e2, e3⟩ := num1_t ((i2f_num b hb).2 h1)
  have hq : FP.Core.div FP.Core.b32 (FP.i2f (nI a)).toNat (FP.i2f (nI b)).toNat ≤ 2139095040 := by
    unfold FP.Core.div
    rw [e1, e2]
    show FP.Core.encode FP.Core.b32 (if d = 0 then (if c = 0 then .nan else .inf (false != false)) else FP.Core.roundRatio FP.Core.b32 (false != false) c d (q - r)) ≤ _
    rw [if_neg e3]
    exact enc32 (okD32 c d (q - r))
  show (UInt32.ofNat (FP.Core.div FP.Core.b32 (FP.i2f (nI a)).toNat (FP.i2f (nI b)).toNat)).toNat ≤ 2139095040
  rw [UInt32.toNat_ofNat']
  exact Nat.le_trans (Nat.mod_le _ _) hq
theorem ddiv_ok {a b : Nat} (ha : a < 241) (hb : b < 241) (h1 : 1 ≤ b) : (FP.ddiv (FP.i2d (nI a)) (FP.i2d (nI b))).toNat ≤ 9218868437227405312 := by
  obtain ⟨c, q, e1⟩ := num0_t (i2d_num a ha).1
  obtain ⟨d, r, e2, e3⟩ := num1_t ((i2d_num b hb).2 h1)
  have hq : FP.Core.div FP.Core.b64 (FP.i2d (nI a)).toNat (FP.i2d (nI b)).toNat ≤ 9218868437227405312 := by
    unfold FP.Core.div
    rw [e1, e2]
    show FP.Core.encode FP.Core.b64 (if d = 0 then (if c = 0 then .nan else .inf (false != false)) else FP.Core.roundRatio FP.Core.b64 (false != false) c d (q - r)) ≤ _
    rw [if_neg e3]
    exact enc64 (okD64 c d (q - r))
  show (UInt64.ofNat (FP.Core.div FP.Core.b64 (FP.i2d (nI a)).toNat (FP.i2d (nI b)).toNat)).toNat ≤ 9218868437227405312
  rw [UInt64.toNat_ofNat']
  exact Nat.le_trans (Nat.mod_le _ _) hq
theorem n32_ok {r : UInt32} (h : r.toNat ≤ 2139095040) : vf_n32 r := by
  show r &&& 0x7fffffff ≤ 0x7f800000
  rw [UInt32.le_iff_toNat_le, UInt32.toNat_and]
  exact Nat.le_trans Nat.and_le_left h
theorem n64_ok {r : UInt64} (h : r.toNat ≤ 9218868437227405312) : vf_n64 r := by
  show r &&& 0x7fffffffffffffff ≤ 0x7ff0000000000000
  rw [UInt64.le_iff_toNat_le, UInt64.toNat_and]
  exact Nat.le_trans Nat.and_le_left h
theorem f2d_ok {r : UInt32} (h : r.toNat ≤ 2139095040) : (FP.f2d r).toNat ≤ 9218868437227405312 := by
  have hd := dec32 h
  have hn : FP.Core.fIsNaN r = false := by
    unfold FP.Core.fIsNaN FP.Core.isNaN
    rw [decide_eq_false_iff_not]
    intro e
    rw [e] at hd
    rcases hd with hd | ⟨c, q, hd⟩ <;> cases hd
  unfold FP.f2d
  rw [hn, if_neg Bool.false_ne_true]
  have hc : FP.Core.convert FP.Core.b32 FP.Core.b64 r.toNat ≤ 9218868437227405312 := by
    unfold FP.Core.convert
    rcases hd with hd | ⟨c, q, hd⟩
    · rw [hd]
      exact enc64 (Or.inl rfl)
    · rw [hd]
      exact enc64 (okD64 c 1 q)
  show (UInt64.ofNat (FP.Core.convert FP.Core.b32 FP.Core.b64 r.toNat)).toNat ≤ _
  rw [UInt64.toNat_ofNat']
  exact Nat.le_trans (Nat.mod_le _ _) hc
theorem dcmp_self {r : UInt64} (h : r.toNat ≤ 9218868437227405312) : Op.cmpValue (FP.dcmp r r) .l = 0 := by
  have e : FP.dcmp r r = some .eq := ord_self (dec64 h)
  rw [e]
  rfl
/-! the two readings -/
def ok64 (r : UInt64) : Prop := r.toNat ≤ 9218868437227405312
def ok32 (r : UInt32) : Prop := r.toNat ≤ 2139095040
def eM (_ : Int32) : String := "java/lang/ArithmeticException"
theorem smp_b {B : Nat} {w : Nat → Int32} {np : Nat} (wp : WFp B w np) (h8 : np ≤ 8) : ∀ n : Nat, n ≤ np → 0 ≤ (sm (fun k => w (8 + 8 * k + 1)) n).toInt ∧ (sm (fun k => w (8 + 8 * k + 1)) n).toInt ≤ 30 * n := by
  intro n
  induction n with
  | zero =>
    intro _
    have e : sm (fun k => w (8 + 8 * k + 1)) 0 = nI 0 := rfl
    rw [e]
    exact ⟨by decide +kernel, by decide +kernel⟩
  | succ n ih =>
    intro hn
    obtain ⟨h1, h2⟩ := ih (by omega)
    have h3 := wp.1 n (by omega)
    unfold WFp1 at h3
    have e : sm (fun k => w (8 + 8 * k + 1)) (n + 1) = sm (fun k => w (8 + 8 * k + 1)) n + w (8 + 8 * n + 1) := by
      unfold sm
      rw [lp_last, Nat.zero_add]
    rw [e, ti_add (by omega) (by omega)]
    omega
theorem smc_b {w : Nat → Int32} {np nc nt : Nat} (wc : WFc w np nc nt) (h12 : nc ≤ 12) : ∀ n : Nat, n ≤ nc → 0 ≤ (sm (fun k => w (72 + 12 * k + 4)) n).toInt ∧ (sm (fun k => w (72 + 12 * k + 4)) n).toInt ≤ 99 * n ∧ n ≤ (sm (fun k => w (72 + 12 * k + 3)) n).toInt ∧ (sm (fun k => w (72 + 12 * k + 3)) n).toInt ≤ 99 * n := by
  intro n
  induction n with
  | zero =>
    intro _
    have e : sm (fun k => w (72 + 12 * k + 4)) 0 = nI 0 := rfl
    have e2 : sm (fun k => w (72 + 12 * k + 3)) 0 = nI 0 := rfl
    rw [e, e2]
    exact ⟨by decide +kernel, by decide +kernel, by decide +kernel, by decide +kernel⟩
  | succ n ih =>
    intro hn
    obtain ⟨h1, h2, h3, h4⟩ := ih (by omega)
    obtain ⟨-, -, -, -, b1, b2, b3, b4, -⟩ := wc.1 n (by omega)
    have e : sm (fun k => w (72 + 12 * k + 4)) (n + 1) = sm (fun k => w (72 + 12 * k + 4)) n + w (72 + 12 * n + 4) := by
      unfold sm
      rw [lp_last, Nat.zero_add]
    have e2 : sm (fun k => w (72 + 12 * k + 3)) (n + 1) = sm (fun k => w (72 + 12 * k + 3)) n + w (72 + 12 * n + 3) := by
      unfold sm
      rw [lp_last, Nat.zero_add]
    rw [e, e2, ti_add (by omega) (by omega), ti_add (by omega) (by omega)]
    omega
theorem L_mean12 {u : gV} {w : Nat → Int32} {n : Nat} (hw : u.1 560 = w) (h0 : w 0 = nI n) (hn : n ≤ 8) (hq : vf_n64 (FP.ddiv (FP.i2d (sm (fun k => w (8 + 8 * k + 1)) n)) (FP.i2d (nI n)))) : ∀ (m k fuel : Nat), k + m = n → m < fuel → p_X12_meanSum_27 fuel (sm (fun k => w (8 + 8 * k + 1)) k) (nI k) u ∧ f_X12_meanSum_27 fuel (sm (fun k => w (8 + 8 * k + 1)) k) (nI k) u = (FP.ddiv (FP.i2d (sm (fun k => w (8 + 8 * k + 1)) n)) (FP.i2d (nI n)), u) := by
  intro m
  induction m with
  | zero =>
    intro k fuel hk hf
    obtain ⟨f, rfl⟩ := fuel_s hf
    obtain rfl : k = n := by omega
    have hle : nI k ≤ nI k := nI_le (by omega) (by omega)
    have h0' : u.1 560 (0 : Int32).toNatClampNeg = nI k := by rw [hw]; exact h0
    rw [p_X12_meanSum_27, f_X12_meanSum_27, h0', if_pos hle]
    exact ⟨⟨fun _ => ⟨hq, trivial⟩, fun h => absurd hle h⟩, rfl⟩
  | succ m ih =>
    intro k fuel hk hf
    obtain ⟨f, rfl⟩ := fuel_s hf
    have hle : ¬ nI n ≤ nI k := nI_ge (by omega) (by omega)
    have h0' : u.1 560 (0 : Int32).toNatClampNeg = nI n := by rw [hw]; exact h0
    have p1 : p_X12_p (nI k) (1 : Int32) u := P_X12_p u (k := k) (o := 1) (by omega)
    have f1 : f_X12_p (nI k) (1 : Int32) u = w (8 + 8 * k + 1) := by
      rw [← hw]
      exact F_X12_p u (k := k) (o := 1) (by omega)
    have e : sm (fun k => w (8 + 8 * k + 1)) k + w (8 + 8 * k + 1) = sm (fun k => w (8 + 8 * k + 1)) (k + 1) := by
      unfold sm
      rw [lp_last, Nat.zero_add]
    have hi := ih (k + 1) f (by omega) (by omega)
    rw [p_X12_meanSum_27, f_X12_meanSum_27, h0', if_neg hle, f1, e, nI_1]
    exact ⟨⟨fun h => absurd h hle, fun _ => ⟨p1, hi.1⟩⟩, hi.2⟩
theorem R_meanSum {B : Nat} : Rd (fun v => (f_X11_meanSum v, v)) p_X11_meanSum f_X12_meanSum p_X12_meanSum eM oy1 ok64 B := by
  intro v np nc nt no h
  have hw := h.1
  have n5 : np ≤ 8 := hw.2.2.2.2.1
  have wp := h.2.2.1
  have bp := h.2.2.2.2.2.2.2.2.1
  have s1 : v.1 (1 + 1) 1 = nI np := h.2.2.2.2.2.2.2.1.1
  obtain ⟨b1, b2⟩ := smp_b wp n5 np (Nat.le_refl _)
  have hS := i_nn b1
  have hsr : f_X11_sumOfRow (1 + 3) 8 (nI np) v = sm (fun k => v.1 560 (8 + 8 * k + 1)) np := by
    rw [F_X11_sumOfRow _ 8 v n5 (by omega)]
    exact sm_congr fun k hk => (bp k hk).2.1
  have hsp : p_X11_sumOfRow (1 + 3) 8 (nI np) v := P_X11_sumOfRow _ 8 v n5 (by omega)
  by_cases h0 : np = 0
  · have z : nI np = 0 := by rw [h0]; rfl
    have hf : f_X11_meanSum v = Sum.inr "java/lang/ArithmeticException" := by
      show f_X11_meanSum_0 v = _
      rw [f_X11_meanSum_0, s1, if_pos z]
    refine ⟨?_, Sc.refl v, nI 1, fun _ => ⟨rfl, hf, fun u hu => ?_⟩, fun h => absurd h n10⟩
    · show p_X11_meanSum_0 v
      rw [p_X11_meanSum_0, s1]
      exact ⟨fun _ => trivial, fun h => absurd z h⟩
    · have u0 : u.1 560 (0 : Int32).toNatClampNeg = nI np := by rw [hu]; exact hw.1
      have hle : nI np ≤ 0 := by rw [z]; exact Int32.le_refl _
      have hck := F_checked (nI 0) u
      rw [if_pos rfl] at hck
      have hck' : f_X12_checked (0 : Int32) u = (nI 1, thr u (nI 1)) := hck
      have hm : p_X12_meanSum u ∧ f_X12_meanSum u = (FP.dconst0, thr u (nI 1)) := by
        have l1 : ¬ nI 1 ≤ 0 := le10
        constructor
        · show p_X12_meanSum_0 u
          rw [p_X12_meanSum_0, u0]
          refine ⟨fun _ => ?_, fun h => absurd hle h⟩
          rw [p_X12_meanSum_15, hck']
          refine ⟨P_checked _ _, ?_⟩
          rw [p_X12_meanSum_18]
          exact ⟨fun h => absurd h l1, fun _ => trivial⟩
        · show f_X12_meanSum_0 u = _
          rw [f_X12_meanSum_0, u0, if_pos hle, f_X12_meanSum_15, hck', f_X12_meanSum_18, if_neg l1]
      rw [hm.2]
      exact ⟨hm.1, thr_Th u _⟩
  · have z : ¬ nI np = 0 := by
      show ¬ nI np = nI 0
      rw [eq_n (by omega) (by omega)]
      exact h0
    have hok : ok64 (FP.ddiv (FP.i2d (sm (fun k => v.1 560 (8 + 8 * k + 1)) np)) (FP.i2d (nI np))) := by
      rw [hS]
      exact ddiv_ok (by omega) (by omega) (by omega)
    have hnan := n64_ok hok
    have hf : f_X11_meanSum v = Sum.inl (FP.ddiv (FP.i2d (sm (fun k => v.1 560 (8 + 8 * k + 1)) np)) (FP.i2d (nI np))) := by
      show f_X11_meanSum_0 v = _
      rw [f_X11_meanSum_0, s1, if_neg z, hsr]
    refine ⟨?_, Sc.refl v, nI 0, fun h => absurd rfl h, fun _ => ⟨_, hok, hf, fun u hu => ?_⟩⟩
    · show p_X11_meanSum_0 v
      rw [p_X11_meanSum_0, s1, hsr]
      exact ⟨fun _ => trivial, fun _ => ⟨hsp, hnan, trivial⟩⟩
    · have u0 : u.1 560 (0 : Int32).toNatClampNeg = nI np := by rw [hu]; exact hw.1
      have hle : ¬ nI np ≤ 0 := by
        show ¬ nI np ≤ nI 0
        rw [le_n (by omega) (by omega)]
        omega
      have hck := F_checked (nI 1) u
      rw [if_neg n10] at hck
      have hck' : f_X12_checked (1 : Int32) u = (nI 0, thr u (nI 0)) := hck
      obtain ⟨c1, c2⟩ := L_mean12 (u := thr u (nI 0)) (w := v.1 560) (by rw [thr_560]; exact hu) hw.1 n5 hnan np 0 5000 (by omega) (by omega)
      have l0 : nI 0 ≤ 0 := le00
      have hm : p_X12_meanSum u ∧ f_X12_meanSum u = (FP.ddiv (FP.i2d (sm (fun k => v.1 560 (8 + 8 * k + 1)) np)) (FP.i2d (nI np)), thr u (nI 0)) := by
        constructor
        · show p_X12_meanSum_0 u
          rw [p_X12_meanSum_0, u0]
          refine ⟨fun h => absurd h hle, fun _ => ?_⟩
          rw [p_X12_meanSum_15, hck']
          refine ⟨P_checked _ _, ?_⟩
          rw [p_X12_meanSum_18]
          exact ⟨fun _ => c1, fun _ => trivial⟩
        · show f_X12_meanSum_0 u = _
          rw [f_X12_meanSum_0, u0, if_neg hle, f_X12_meanSum_15, hck', f_X12_meanSum_18, if_pos l0]
          exact c2
      rw [hm.2]
      exact ⟨hm.1, rfl, thr_Th u _⟩
theorem L_share12 {u : gV} {w : Nat → Int32} {n : Nat} (hw : u.1 560 = w) (h0 : w 1 = nI n) (hn : n ≤ 12) (hq : vf_n32 (FP.fdiv (FP.i2f (sm (fun k => w (72 + 12 * k + 4)) n)) (FP.i2f (sm (fun k => w (72 + 12 * k + 3)) n)))) : ∀ (m k fuel : Nat), k + m = n → m < fuel → p_X12_paidShare_29 fuel (sm (fun k => w (72 + 12 * k + 4)) k) (sm (fun k => w (72 + 12 * k + 3)) k) (nI k) u ∧ f_X12_paidShare_29 fuel (sm (fun k => w (72 + 12 * k + 4)) k) (sm (fun k => w (72 + 12 * k + 3)) k) (nI k) u = (FP.fdiv (FP.i2f (sm (fun k => w (72 + 12 * k + 4)) n)) (FP.i2f (sm (fun k => w (72 + 12 * k + 3)) n)), u) := by
  intro m
  induction m with
  | zero =>
    intro k fuel hk hf
    obtain ⟨f, rfl⟩ := fuel_s hf
    obtain rfl : k = n := by omega
    have hle : nI k ≤ nI k := nI_le (by omega) (by omega)
    have h0' : u.1 560 (1 : Int32).toNatClampNeg = nI k := by rw [hw]; exact h0
    rw [p_X12_paidShare_29, f_X12_paidShare_29, h0', if_pos hle]
    exact ⟨⟨fun _ => ⟨hq, trivial⟩, fun h => absurd hle h⟩, rfl⟩
  | succ m ih =>
    intro k fuel hk hf
    obtain ⟨f, rfl⟩ := fuel_s hf
    have hle : ¬ nI n ≤ nI k := nI_ge (by omega) (by omega)
    have h0' : u.1 560 (1 : Int32).toNatClampNeg = nI n := by rw [hw]; exact h0
    have p3 : p_X12_c (nI k) (3 : Int32) u := P_X12_c u (k := k) (o := 3) (by omega)
    have p4 : p_X12_c (nI k) (4 : Int32) u := P_X12_c u (k := k) (o := 4) (by omega)
    have f3 : f_X12_c (nI k) (3 : Int32) u = w (72 + 12 * k + 3) := by
      rw [← hw]
      exact F_X12_c u (k := k) (o := 3) (by omega)
    have f4 : f_X12_c (nI k) (4 : Int32) u = w (72 + 12 * k + 4) := by
      rw [← hw]
      exact F_X12_c u (k := k) (o := 4) (by omega)
    have e : sm (fun k => w (72 + 12 * k + 4)) k + w (72 + 12 * k + 4) = sm (fun k => w (72 + 12 * k + 4)) (k + 1) := by
      unfold sm
      rw [lp_last, Nat.zero_add]
    have e2 : sm (fun k => w (72 + 12 * k + 3)) k + w (72 + 12 * k + 3) = sm (fun k => w (72 + 12 * k + 3)) (k + 1) := by
      unfold sm
      rw [lp_last, Nat.zero_add]
    have hi := ih (k + 1) f (by omega) (by omega)
    rw [p_X12_paidShare_29, f_X12_paidShare_29, h0', if_neg hle, f3, f4, e, e2, nI_1]
    exact ⟨⟨fun h => absurd h hle, fun _ => ⟨p4, p3, hi.1⟩⟩, hi.2⟩
theorem R_paidShare {B : Nat} : Rd (fun v => (f_X11_paidShare v, v)) p_X11_paidShare f_X12_paidShare p_X12_paidShare eM oy1 ok32 B := by
  intro v np nc nt no h
  have hw := h.1
  have n5 : nc ≤ 12 := hw.2.2.2.2.2.1
  have wc := h.2.2.2.1
  have bc := h.2.2.2.2.2.2.2.2.2.1
  have s1 : v.1 (1 + 10) 1 = nI nc := h.2.2.2.2.2.2.2.1.2.2.1
  obtain ⟨b1, b2, b3, b4⟩ := smc_b wc n5 nc (Nat.le_refl _)
  have hS := i_nn b1
  have hS2 := i_nn (x := sm (fun k => v.1 560 (72 + 12 * k + 3)) nc) (by omega)
  have hsr : f_X11_sumOfRow (1 + 15) 12 (nI nc) v = sm (fun k => v.1 560 (72 + 12 * k + 4)) nc := by
    rw [F_X11_sumOfRow _ 12 v n5 (by omega)]
    exact sm_congr fun k hk => (bc k hk).2.2.2.2.1
  have hsr2 : f_X11_sumOfRow (1 + 14) 12 (nI nc) v = sm (fun k => v.1 560 (72 + 12 * k + 3)) nc := by
    rw [F_X11_sumOfRow _ 12 v n5 (by omega)]
    exact sm_congr fun k hk => (bc k hk).2.2.2.1
  have hsp : p_X11_sumOfRow (1 + 15) 12 (nI nc) v := P_X11_sumOfRow _ 12 v n5 (by omega)
  have hsp2 : p_X11_sumOfRow (1 + 14) 12 (nI nc) v := P_X11_sumOfRow _ 12 v n5 (by omega)
  have z0 : (0 : Int32).toInt = 0 := rfl
  by_cases h0 : nc = 0
  · have z : nI nc = 0 := by rw [h0]; rfl
    have z2 : sm (fun k => v.1 560 (72 + 12 * k + 3)) nc = 0 := by rw [h0]; rfl
    have hf : f_X11_paidShare v = Sum.inr "java/lang/ArithmeticException" := by
      show f_X11_paidShare_0 v = _
      rw [f_X11_paidShare_0, s1, hsr2, if_pos z2]
    refine ⟨?_, Sc.refl v, nI 1, fun _ => ⟨rfl, hf, fun u hu => ?_⟩, fun h => absurd h n10⟩
    · show p_X11_paidShare_0 v
      rw [p_X11_paidShare_0, s1, hsr2]
      exact ⟨hsp2, fun _ => trivial, fun h => absurd z2 h⟩
    · have u0 : u.1 560 (1 : Int32).toNatClampNeg = nI nc := by rw [hu]; exact hw.2.1
      have hle : nI nc ≤ 0 := by rw [z]; exact Int32.le_refl _
      have hck := F_checked (nI 0) u
      rw [if_pos rfl] at hck
      have hck' : f_X12_checked (0 : Int32) u = (nI 1, thr u (nI 1)) := hck
      have hm : p_X12_paidShare u ∧ f_X12_paidShare u = (FP.fconst0, thr u (nI 1)) := by
        have l1 : ¬ nI 1 ≤ 0 := le10
        constructor
        · show p_X12_paidShare_0 u
          rw [p_X12_paidShare_0, u0]
          refine ⟨fun _ => ?_, fun h => absurd hle h⟩
          rw [p_X12_paidShare_15, hck']
          refine ⟨P_checked _ _, ?_⟩
          rw [p_X12_paidShare_18]
          exact ⟨fun h => absurd h l1, fun _ => trivial⟩
        · show f_X12_paidShare_0 u = _
          rw [f_X12_paidShare_0, u0, if_pos hle, f_X12_paidShare_15, hck', f_X12_paidShare_18, if_neg l1]
      rw [hm.2]
      exact ⟨hm.1, thr_Th u _⟩
  · have z2 : ¬ sm (fun k => v.1 560 (72 + 12 * k + 3)) nc = 0 := by
      rw [i_eq, z0]
      omega
    have hok : ok32 (FP.fdiv (FP.i2f (sm (fun k => v.1 560 (72 + 12 * k + 4)) nc)) (FP.i2f (sm (fun k => v.1 560 (72 + 12 * k + 3)) nc))) := by
      rw [hS, hS2]
      exact fdiv_ok (by omega) (by omega) (by omega)
    have hnan := n32_ok hok
    have hf : f_X11_paidShare v = Sum.inl (FP.fdiv (FP.i2f (sm (fun k => v.1 560 (72 + 12 * k + 4)) nc)) (FP.i2f (sm (fun k => v.1 560 (72 + 12 * k + 3)) nc))) := by
      show f_X11_paidShare_0 v = _
      rw [f_X11_paidShare_0, s1, hsr2, if_neg z2, hsr]
    refine ⟨?_, Sc.refl v, nI 0, fun h => absurd rfl h, fun _ => ⟨_, hok, hf, fun u hu => ?_⟩⟩
    · show p_X11_paidShare_0 v
      rw [p_X11_paidShare_0, s1, hsr2, hsr]
      exact ⟨hsp2, fun _ => trivial, fun _ => ⟨hsp, hnan, trivial⟩⟩
    · have u0 : u.1 560 (1 : Int32).toNatClampNeg = nI nc := by rw [hu]; exact hw.2.1
      have hle : ¬ nI nc ≤ 0 := by
        show ¬ nI nc ≤ nI 0
        rw [le_n (by omega) (by omega)]
        omega
      have hck := F_checked (nI 1) u
      rw [if_neg n10] at hck
      have hck' : f_X12_checked (1 : Int32) u = (nI 0, thr u (nI 0)) := hck
      obtain ⟨c1, c2⟩ := L_share12 (u := thr u (nI 0)) (w := v.1 560) (by rw [thr_560]; exact hu) hw.2.1 n5 hnan nc 0 5000 (by omega) (by omega)
      have l0 : nI 0 ≤ 0 := le00
      have hm : p_X12_paidShare u ∧ f_X12_paidShare u = (FP.fdiv (FP.i2f (sm (fun k => v.1 560 (72 + 12 * k + 4)) nc)) (FP.i2f (sm (fun k => v.1 560 (72 + 12 * k + 3)) nc)), thr u (nI 0)) := by
        constructor
        · show p_X12_paidShare_0 u
          rw [p_X12_paidShare_0, u0]
          refine ⟨fun h => absurd h hle, fun _ => ?_⟩
          rw [p_X12_paidShare_15, hck']
          refine ⟨P_checked _ _, ?_⟩
          rw [p_X12_paidShare_18]
          exact ⟨fun _ => c1, fun _ => trivial⟩
        · show f_X12_paidShare_0 u = _
          rw [f_X12_paidShare_0, u0, if_neg hle, f_X12_paidShare_15, hck', f_X12_paidShare_18, if_pos l0]
          exact c2
      rw [hm.2]
      exact ⟨hm.1, rfl, thr_Th u _⟩
