/-! coins borne by treaties: the class beside the reference -/
/-- what holds of (borne, left, sum) after coins were looked at -/
def bOk (w : Nat → Int32) (n m : Nat) (s : bSt) : Prop := (∀ o, o < n → 0 ≤ (s.1 o).toInt ∧ 0 ≤ (s.2.1 o).toInt ∧ (s.1 o).toInt + (s.2.1 o).toInt = (w (216 + 4 * o + 2)).toInt) ∧ (∀ o, o < 4 → n ≤ o → s.1 o = nI 0) ∧ sI (fun o => (s.1 o).toInt) 4 ≤ m ∧ s.2.2 = sm s.1 4
theorem sI_upd {f g : Nat → Int} {o : Nat} {d : Int} (hg : g o = f o + d) (hne : ∀ i, ¬ i = o → g i = f i) : ∀ {n : Nat}, o < n → sI g n = sI f n + d := by
  intro n
  induction n with
  | zero => intro h; omega
  | succ n ih =>
    intro h
    show sI g n + g n = sI f n + f n + d
    by_cases e : o = n
    · subst e
      rw [sI_congr (g := f) fun i hi => hne i (by omega), hg]
      omega
    · rw [ih (by omega), hne n (by omega)]
      omega
theorem sm4 (r : Nat → Int32) : sm r 4 = nI 0 + r 0 + r 1 + r 2 + r 3 := rfl
theorem sm4_upd (r : Nat → Int32) {o : Nat} (ho : o < 4) : sm (upd r o (r o + nI 1)) 4 = sm r 4 + nI 1 := by
  rw [sm4, sm4]
  rcases (by omega : o = 0 ∨ o = 1 ∨ o = 2 ∨ o = 3) with rfl | rfl | rfl | rfl
  all_goals
    simp (disch := omega) only [upd_eq, upd_ne]
    grind
theorem bFit_t {w L : Nat → Int32} {c o : Nat} (h : bFit w L c o = true) : ¬ nI c ≤ w (216 + 4 * o) ∧ ¬ w (216 + 4 * o) + w (216 + 4 * o + 1) < nI c ∧ ¬ L o = nI 0 := by
  unfold bFit at h
  rw [Bool.and_eq_true, Bool.and_eq_true, Bool.not_eq_true', Bool.not_eq_true', Bool.not_eq_true', decide_eq_false_iff_not, decide_eq_false_iff_not, decide_eq_false_iff_not] at h
  exact h
theorem bNext_ok {w : Nat → Int32} {n m c : Nat} {s : bSt} (hn : n ≤ 4) (hm : m < 4000) (hw : WFt w n) (h : bOk w n m s) : bOk w n (m + 1) (bNext w n c s) := by
  unfold bNext
  cases e : ff (bFit w s.2.1 c) n 0 with
  | none =>
    have h3 : sI (fun o => (s.1 o).toInt) 4 ≤ ((m + 1 : Nat) : Int) := by have := h.2.2.1; omega
    exact ⟨h.1, h.2.1, h3, h.2.2.2⟩
  | some o =>
    obtain ⟨-, h1, h2, -⟩ := ff_some n 0 o e
    obtain ⟨g1, g2, g3, g4⟩ := h
    have ho : o < n := by omega
    obtain ⟨a1, a2, a3⟩ := g1 o ho
    have t1 : (nI 1).toInt = 1 := tI (by omega)
    have hL : ¬ s.2.1 o = nI 0 := (bFit_t h2).2.2
    have hL2 : 1 ≤ (s.2.1 o).toInt := by
      rw [i_eq, tI (by omega)] at hL
      omega
    have hle := sI_le (f := fun o => (s.1 o).toInt) (n := 4) (i := o) (fun i hi => by
      by_cases hin : i < n
      · exact (g1 i hin).1
      · show 0 ≤ (s.1 i).toInt
        rw [g2 i hi (by omega), tI (by omega)]
        omega) (by omega)
    have hle2 : (s.1 o).toInt ≤ m := Int.le_trans hle g3
    have e1 : (s.1 o + nI 1).toInt = (s.1 o).toInt + 1 := by rw [ti_add (by omega) (by omega), t1]
    have hi2 := ti_hi (s.2.1 o)
    have e2 : (s.2.1 o - nI 1).toInt = (s.2.1 o).toInt - 1 := by rw [ti_sub (by omega) (by omega), t1]
    refine ⟨fun i hi => ?_, fun i hi hni => ?_, ?_, ?_⟩
    · show 0 ≤ (upd s.1 o (s.1 o + nI 1) i).toInt ∧ 0 ≤ (upd s.2.1 o (s.2.1 o - nI 1) i).toInt ∧ (upd s.1 o (s.1 o + nI 1) i).toInt + (upd s.2.1 o (s.2.1 o - nI 1) i).toInt = _
      by_cases e : i = o
      · subst e
        rw [upd_eq, upd_eq, e1, e2]
        omega
      · rw [upd_ne e, upd_ne e]
        exact g1 i hi
    · show upd s.1 o (s.1 o + nI 1) i = nI 0
      rw [upd_ne (by omega)]
      exact g2 i hi hni
    · show sI (fun i => (upd s.1 o (s.1 o + nI 1) i).toInt) 4 ≤ ((m + 1 : Nat) : Int)
      rw [sI_upd (f := fun i => (s.1 i).toInt) (o := o) (d := 1) (by show (upd s.1 o _ o).toInt = _; rw [upd_eq, e1]) (fun i hi => by show (upd s.1 o _ i).toInt = _; rw [upd_ne hi]) (by omega)]
      omega
    · show s.2.2 + nI 1 = sm (upd s.1 o (s.1 o + nI 1)) 4
      rw [sm4_upd _ (by omega), g4]
theorem bInit_ok {w : Nat → Int32} {n : Nat} {B L : Nat → Int32} (hn : n ≤ 4) (hw : WFt w n) : bOk w n 0 (bInit w n B L) := by
  have t0 : (nI 0).toInt = 0 := tI (by omega)
  have f0 : ∀ o, o < 4 → fil B (nI 0) 0 4 o = nI 0 := fun o ho => fil_in (by omega)
  unfold bInit
  refine ⟨fun o ho => ?_, fun o ho _ => f0 o ho, ?_, ?_⟩
  · show 0 ≤ (fil B (nI 0) 0 4 o).toInt ∧ 0 ≤ (if o < 4 then (if o < n then w (216 + 4 * o + 2) else nI 0) else L o).toInt ∧ (fil B (nI 0) 0 4 o).toInt + (if o < 4 then (if o < n then w (216 + 4 * o + 2) else nI 0) else L o).toInt = _
    rw [f0 o (by omega), if_pos (by omega), if_pos ho, t0]
    have := (hw o ho).2.2.2.2
    omega
  · show sI (fun o => (fil B (nI 0) 0 4 o).toInt) 4 ≤ ((0 : Nat) : Int)
    rw [sI_congr (g := fun _ => 0) fun i hi => by rw [f0 i hi, t0]]
    decide
  · show nI 0 = sm (fil B (nI 0) 0 4) 4
    rw [sm4, f0 0 (by omega), f0 1 (by omega), f0 2 (by omega), f0 3 (by omega)]
    decide
theorem brs_ok {w : Nat → Int32} {n A : Nat} {B L : Nat → Int32} (hn : n ≤ 4) (hA : A < 4000) (hw : WFt w n) : bOk w n A (brs w n A B L) := by
  have h := lp_inv (g := bNext w n) (fun i s => bOk w n (i - 1) s) A 1 (bInit w n B L) (bInit_ok hn hw) (fun i s h1 h2 hs => by
    have h3 := bNext_ok (c := i) hn (by omega) hw hs
    show bOk w n (i + 1 - 1) _
    rw [show i + 1 - 1 = i - 1 + 1 by omega]
    exact h3)
  rw [show 1 + A - 1 = A by omega] at h
  exact h
/-- two states that agree on the n treaties -/
def bEq (n : Nat) (s t : bSt) : Prop := (∀ o, o < n → s.1 o = t.1 o ∧ s.2.1 o = t.2.1 o)
theorem bNext_eq {w : Nat → Int32} {n c : Nat} {s t : bSt} (h : bEq n s t) : bEq n (bNext w n c s) (bNext w n c t) := by
  unfold bNext
  rw [ff_congr (d := bFit w t.2.1 c) n 0 fun i _ hi => by unfold bFit; rw [(h i (by omega)).2]]
  cases e : ff (bFit w t.2.1 c) n 0 with
  | none => exact h
  | some o =>
    obtain ⟨-, h1, -⟩ := ff_some n 0 o e
    intro i hi
    show upd s.1 o (s.1 o + nI 1) i = upd t.1 o (t.1 o + nI 1) i ∧ upd s.2.1 o (s.2.1 o - nI 1) i = upd t.2.1 o (t.2.1 o - nI 1) i
    rw [upd_at, upd_at, upd_at, upd_at, (h o (by omega)).1, (h o (by omega)).2, (h i hi).1, (h i hi).2]
    exact ⟨rfl, rfl⟩
theorem bNext_hi {w : Nat → Int32} {n c : Nat} {s : bSt} {i : Nat} (hi : n ≤ i) : (bNext w n c s).1 i = s.1 i ∧ (bNext w n c s).2.1 i = s.2.1 i := by
  unfold bNext
  cases e : ff (bFit w s.2.1 c) n 0 with
  | none => exact ⟨rfl, rfl⟩
  | some o =>
    obtain ⟨-, h1, -⟩ := ff_some n 0 o e
    exact ⟨upd_ne (by omega), upd_ne (by omega)⟩
/-- the class' bearCoins on rows j2 (left) and j3 (parts) -/
def cVec (v : gV) (j2 j3 : Nat) (s : bSt) : gV := vRow (vRow v j2 s.2.1) j3 s.1
theorem cVec_ne (v : gV) {j2 j3 i : Nat} (s : bSt) (h2 : ¬ i = j2) (h3 : ¬ i = j3) : (cVec v j2 j3 s).1 i = v.1 i := by
  unfold cVec
  rw [vRow_ne _ _ h3, vRow_ne _ _ h2]
theorem cVec_2 (v : gV) {j2 j3 : Nat} (s : bSt) (h : ¬ j2 = j3) : (cVec v j2 j3 s).1 j2 = s.2.1 := by
  unfold cVec
  rw [vRow_ne _ _ h, vRow_eq]
theorem cVec_3 (v : gV) {j2 j3 : Nat} (s : bSt) : (cVec v j2 j3 s).1 j3 = s.1 := by
  unfold cVec
  rw [vRow_eq]
theorem cVec_row (v : gV) {j2 j3 : Nat} (s : bSt) (f g : Nat → Int32) (h : ¬ j2 = j3) : vRow (vRow (cVec v j2 j3 s) j2 g) j3 f = cVec v j2 j3 (f, g, s.2.2) := by
  unfold cVec
  apply Prod.ext
  · funext a
    simp only [vRow_at]
    by_cases h1 : a = j3
    · rw [if_pos h1, if_pos h1]
    · rw [if_neg h1, if_neg h1, if_neg h1]
      by_cases h2 : a = j2
      · rw [if_pos h2, if_pos h2]
      · rw [if_neg h2, if_neg h2, if_neg h2]
  · rfl
theorem L_treatyOf (v : gV) (j2 c : Nat) (w : Nat → Int32) {n : Nat} (hn : n ≤ 4) (h6 : v.1 31 6 = nI n) (hS : ∀ o, o < n → v.1 32 o = w (216 + 4 * o) ∧ v.1 33 o = w (216 + 4 * o + 1)) (hL : ∀ o, o < n → 0 ≤ (v.1 j2 o).toInt) : ∀ (m k fuel : Nat), k + m = n → m < fuel → p_X8_treatyOf_2 1 j2 fuel (nI c) (nI k) v ∧ f_X8_treatyOf_2 1 j2 fuel (nI c) (nI k) v = oN (ff (bFit w (v.1 j2) c) m k) := by
  intro m
  induction m with
  | zero =>
    intro k fuel hk hf
    obtain ⟨f, rfl⟩ := fuel_s hf
    have hc : v.1 (1 + 30) 6 ≤ nI k := by
      rw [show v.1 (1 + 30) 6 = nI n from h6]
      exact nI_le (by omega) (by omega)
    rw [p_X8_treatyOf_2, f_X8_treatyOf_2, if_pos hc, ff_0]
    exact ⟨⟨fun _ => trivial, fun h => absurd hc h⟩, rfl⟩
  | succ m ih =>
    intro k fuel hk hf
    obtain ⟨f, rfl⟩ := fuel_s hf
    have hc : ¬ v.1 (1 + 30) 6 ≤ nI k := by
      rw [show v.1 (1 + 30) 6 = nI n from h6]
      exact nI_ge (by omega) (by omega)
    have hi := ih (k + 1) f (by omega) (by omega)
    have h4 : vp_in (nI k) 4 := vi_n (by omega) (by omega)
    obtain ⟨e1, e2⟩ := hS k (by omega)
    have e1' : v.1 (1 + 31) k = w (216 + 4 * k) := e1
    have e2' : v.1 (1 + 32) k = w (216 + 4 * k + 1) := e2
    have e3 : (v.1 j2 k ≤ (0 : Int32)) ↔ v.1 j2 k = nI 0 := by
      have := hL k (by omega)
      rw [i_le, i_eq, tI (by omega), show (0 : Int32).toInt = 0 from rfl]
      omega
    rw [p_X8_treatyOf_2, f_X8_treatyOf_2, if_neg hc, ff_s, cl_n (by omega), e1', e2']
    by_cases a1 : nI c ≤ w (216 + 4 * k)
    · rw [if_pos a1, if_neg (by unfold bFit; rw [decide_eq_true a1]; exact Bool.false_ne_true)]
      simp only [f_X8_treatyOf_45, p_X8_treatyOf_45, nI_1]
      exact ⟨⟨fun h => absurd h hc, fun _ => ⟨h4, fun _ => hi.1, fun h => absurd a1 h⟩⟩, hi.2⟩
    · rw [if_neg a1]
      by_cases a2 : w (216 + 4 * k) + w (216 + 4 * k + 1) < nI c
      · rw [if_pos a2, if_neg (by unfold bFit; rw [decide_eq_true a2, Bool.not_true, Bool.false_and, Bool.and_false]; exact Bool.false_ne_true)]
        simp only [f_X8_treatyOf_45, p_X8_treatyOf_45, nI_1]
        exact ⟨⟨fun h => absurd h hc, fun _ => ⟨h4, fun h => absurd h a1, fun _ => ⟨h4, h4, fun _ => hi.1, fun h => absurd a2 h⟩⟩⟩, hi.2⟩
      · rw [if_neg a2]
        by_cases a3 : v.1 j2 k = nI 0
        · rw [if_pos (e3.mpr a3), if_neg (by unfold bFit; rw [decide_eq_true a3, Bool.not_true, Bool.and_false, Bool.and_false]; exact Bool.false_ne_true)]
          simp only [f_X8_treatyOf_45, p_X8_treatyOf_45, nI_1]
          exact ⟨⟨fun h => absurd h hc, fun _ => ⟨h4, fun h => absurd h a1, fun _ => ⟨h4, h4, fun h => absurd h a2, fun _ => ⟨h4, fun _ => hi.1, fun h => absurd (e3.mpr a3) h⟩⟩⟩⟩, hi.2⟩
        · rw [if_neg (by rw [e3]; exact a3), if_pos (by unfold bFit; rw [decide_eq_false a1, decide_eq_false a2, decide_eq_false a3]; rfl)]
          exact ⟨⟨fun h => absurd h hc, fun _ => ⟨h4, fun h => absurd h a1, fun _ => ⟨h4, h4, fun h => absurd h a2, fun _ => ⟨h4, fun h => absurd (e3.mp h) a3, fun _ => trivial⟩⟩⟩⟩, rfl⟩
theorem K_treatyOf (v : gV) (j2 c : Nat) (w : Nat → Int32) {n : Nat} (hn : n ≤ 4) (h6 : v.1 31 6 = nI n) (hS : ∀ o, o < n → v.1 32 o = w (216 + 4 * o) ∧ v.1 33 o = w (216 + 4 * o + 1)) (hL : ∀ o, o < n → 0 ≤ (v.1 j2 o).toInt) : p_X8_treatyOf 1 j2 (nI c) v ∧ f_X8_treatyOf 1 j2 (nI c) v = oN (ff (bFit w (v.1 j2) c) n 0) := L_treatyOf v j2 c w hn h6 hS hL n 0 5000 (by omega) (by omega)
/-- nothing left is below 0 -/
def bNn (n : Nat) (s : bSt) : Prop := ∀ o, o < n → 0 ≤ (s.2.1 o).toInt
theorem bNext_nn {w : Nat → Int32} {n c : Nat} {s : bSt} (h : bNn n s) : bNn n (bNext w n c s) := by
  unfold bNext
  cases e : ff (bFit w s.2.1 c) n 0 with
  | none => exact h
  | some o =>
    obtain ⟨-, h1, h2, -⟩ := ff_some n 0 o e
    intro i hi
    show 0 ≤ (upd s.2.1 o (s.2.1 o - nI 1) i).toInt
    by_cases e : i = o
    · subst e
      have hL : ¬ s.2.1 i = nI 0 := (bFit_t h2).2.2
      have h3 := h i hi
      have t1 : (nI 1).toInt = 1 := tI (by omega)
      have hi2 := ti_hi (s.2.1 i)
      rw [i_eq, tI (by omega)] at hL
      rw [upd_eq, ti_sub (by omega) (by omega), t1]
      omega
    · rw [upd_ne e]
      exact h i hi
theorem L_bearCoins (v : gV) (w : Nat → Int32) {n A j2 j3 : Nat} (hn : n ≤ 4) (hA : A < 4000) (h23 : ¬ j2 = j3) (h2 : 33 < j2) (h3 : j3 < 31 ∨ 33 < j3) (h6 : v.1 31 6 = nI n) (hS : ∀ o, o < n → v.1 32 o = w (216 + 4 * o) ∧ v.1 33 o = w (216 + 4 * o + 1)) : ∀ (m c fuel : Nat) (s : bSt), c + m = A + 1 → m < fuel → bNn n s → p_X8_bearCoins_3 1 j2 j3 fuel (nI A) (nI c) (cVec v j2 j3 s) ∧ f_X8_bearCoins_3 1 j2 j3 fuel (nI A) (nI c) (cVec v j2 j3 s) = cVec v j2 j3 (lp (bNext w n) m c s) := by
  intro m
  induction m with
  | zero =>
    intro c fuel s hk hf hs
    obtain ⟨f, rfl⟩ := fuel_s hf
    have hc : nI A < nI c := nI_lt (by omega) (by omega)
    rw [p_X8_bearCoins_3, f_X8_bearCoins_3, if_pos hc]
    exact ⟨⟨fun _ => trivial, fun h => absurd hc h⟩, rfl⟩
  | succ m ih =>
    intro c fuel s hk hf hs
    obtain ⟨f, rfl⟩ := fuel_s hf
    have hc : ¬ nI A < nI c := nI_nlt (by omega) (by omega)
    have hi := ih (c + 1) f (bNext w n c s) (by omega) (by omega) (bNext_nn hs)
    have ht := K_treatyOf (cVec v j2 j3 s) j2 c w hn (by rw [cVec_ne _ _ (by omega) (by omega)]; exact h6) (fun o ho => by rw [cVec_ne _ _ (by omega) (by omega), cVec_ne _ _ (by omega) (by omega)]; exact hS o ho) (fun o ho => by rw [cVec_2 _ _ h23]; exact hs o ho)
    rw [cVec_2 _ _ h23] at ht
    rw [p_X8_bearCoins_3, f_X8_bearCoins_3, if_neg hc, lp_s]
    have hb : bNext w n c s = (ff (bFit w s.2.1 c) n 0).elim s fun o => bTake s o := rfl
    cases e : ff (bFit w s.2.1 c) n 0 with
    | none =>
      rw [e] at ht hb
      have hb' : bNext w n c s = s := hb
      rw [hb'] at hi ⊢
      rw [ht.2, if_pos oN_none']
      simp only [f_X8_bearCoins_39, p_X8_bearCoins_39, nI_1]
      exact ⟨⟨fun h => absurd h hc, fun _ => ⟨ht.1, fun _ => hi.1, fun h => absurd oN_none' h⟩⟩, hi.2⟩
    | some o =>
      obtain ⟨-, h1, -⟩ := ff_some n 0 o e
      rw [e] at ht hb
      have hb' : bNext w n c s = bTake s o := hb
      rw [hb'] at hi ⊢
      have h4 : vp_in (nI o) 4 := vi_n (by omega) (by omega)
      have hneg : ¬ oN (some o) < 0 := oN_some' (by omega)
      have hv : vM (vM (cVec v j2 j3 s) j2 o ((cVec v j2 j3 s).1 j2 o - nI 1)) j3 o ((vM (cVec v j2 j3 s) j2 o ((cVec v j2 j3 s).1 j2 o - nI 1)).1 j3 o + nI 1) = cVec v j2 j3 (bTake s o) := by
        rw [vM_rw, vM_rw, vRow_ne _ _ (fun h => h23 h.symm), cVec_2 _ _ h23, cVec_3, cVec_row _ _ _ _ h23]
        rfl
      rw [ht.2, if_neg hneg]
      have ho : oN (some o) = nI o := rfl
      rw [ho] at hneg ⊢
      rw [cl_n (show o < 2147483648 by omega)]
      simp only [f_X8_bearCoins_31, p_X8_bearCoins_31, f_X8_bearCoins_39, p_X8_bearCoins_39, nI_add, cl_n (show o < 2147483648 by omega), li_1, hv]
      exact ⟨⟨fun h => absurd h hc, fun _ => ⟨ht.1, fun h => absurd h hneg, fun _ => ⟨h4, h4, h4, h4, hi.1⟩⟩⟩, hi.2⟩
theorem K_bearCoins (v : gV) (w : Nat → Int32) {n A j2 j3 : Nat} (hn : n ≤ 4) (hA : A < 4000) (h23 : ¬ j2 = j3) (h2 : 33 < j2) (h3 : j3 < 31 ∨ 33 < j3) (h6 : v.1 31 6 = nI n) (hS : ∀ o, o < n → v.1 32 o = w (216 + 4 * o) ∧ v.1 33 o = w (216 + 4 * o + 1)) (hL : ∀ o, o < n → 0 ≤ (v.1 j2 o).toInt) : p_X8_bearCoins 1 j2 j3 (nI A) v ∧ f_X8_bearCoins 1 j2 j3 (nI A) v = cVec v j2 j3 (lp (bNext w n) A 1 (v.1 j3, v.1 j2, nI 0)) := by
  have h := L_bearCoins v w hn hA h23 h2 h3 h6 hS A 1 5000 (v.1 j3, v.1 j2, nI 0) (by omega) (by omega) hL
  have e : cVec v j2 j3 (v.1 j3, v.1 j2, nI 0) = v := by
    unfold cVec
    rw [vRow_self]
    exact vRow_self v j3
  rw [e] at h
  exact h
/-- the class' result beside the reference's -/
theorem bears_eq (w : Nat → Int32) {n A : Nat} (hn : n ≤ 4) (P L B0 L0 : Nat → Int32) (hP : ∀ o, o < 4 → P o = nI 0) (hL : ∀ o, o < n → L o = w (216 + 4 * o + 2)) : (∀ o, o < 4 → (lp (bNext w n) A 1 (P, L, nI 0)).1 o = (brs w n A B0 L0).1 o) ∧ (∀ o, o < n → (lp (bNext w n) A 1 (P, L, nI 0)).2.1 o = (brs w n A B0 L0).2.1 o) := by
  have h := lp_inv2 (g := bNext w n) (h := bNext w n) (fun _ s t => bEq n s t ∧ (∀ o, o < 4 → n ≤ o → s.1 o = nI 0 ∧ t.1 o = nI 0)) A 1 (P, L, nI 0) (bInit w n B0 L0) ⟨fun o ho => ⟨by show P o = fil B0 (nI 0) 0 4 o; rw [hP o (by omega), fil_in (by omega)], by show L o = (if o < 4 then (if o < n then w (216 + 4 * o + 2) else nI 0) else L0 o); rw [hL o ho, if_pos (by omega), if_pos ho]⟩, fun o ho _ => ⟨hP o ho, fil_in (by omega)⟩⟩ (fun i s t _ _ hs => ⟨bNext_eq hs.1, fun o ho hno => by rw [(bNext_hi hno).1, (bNext_hi hno).1]; exact hs.2 o ho hno⟩)
  refine ⟨fun o ho => ?_, fun o ho => (h.1 o ho).2⟩
  by_cases e : o < n
  · exact (h.1 o e).1
  · exact (h.2 o ho (by omega)).1.trans (h.2 o ho (by omega)).2.symm
