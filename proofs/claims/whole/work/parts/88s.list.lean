/-! the script's form, as a list of commands, on both sides -/
def Ck (v w : gV) : Prop := w.2 = v.2 ∧ ∀ j, ¬ j = 553 → ¬ j = 556 → w.1 j = v.1 j
theorem Ck.refl (v : gV) : Ck v v := ⟨rfl, fun _ _ _ => rfl⟩
theorem Ck.trans {v u t : gV} (h : Ck v u) (g : Ck u t) : Ck v t := ⟨g.1.trans h.1, fun j a b => (g.2 j a b).trans (h.2 j a b)⟩
theorem Ck.row {v u : gV} (h : Ck v u) (k : Nat) (x : Int32) : Ck v (vM u 553 k x) := ⟨h.1, fun j a b => by rw [vM_rw, vRow_ne _ _ a]; exact h.2 j a b⟩
theorem Ck.cs (v : gV) (q : Nat) (N : Nat → Int32) : Ck v (cS v q N) := ⟨rfl, fun _ a b => cS_o v q N a b⟩
theorem TX.ck {T : Nat → Int32} {n : Nat} {v w : gV} (h : Ck v w) (hv : TX T n v) : TX T n w := by
  unfold TX at hv ⊢
  rw [h.2 554 (by omega) (by omega), h.2 555 (by omega) (by omega)]
  exact hv
theorem CR_no {T : Nat → Int32} {n p q : Nat} (h : CR T n p (Sum.inl q)) {v : gV} (hv : TX T n v) (h3 : v.1 553 3 = nI p) : p_X7_readCommand v ∧ ∃ w, f_X7_readCommand v = (nI 0, w) ∧ Ck v w ∧ w.1 553 3 = nI q := by
  obtain ⟨a, b, -⟩ := h v hv h3
  obtain ⟨N, b⟩ := b q rfl
  exact ⟨a, _, b, Ck.cs v q N, cS_p v q N⟩
theorem CR_ok {T : Nat → Int32} {n p k q : Nat} {xs : List Int32} (h : CR T n p (Sum.inr (k, q, xs))) {v : gV} (hv : TX T n v) (h3 : v.1 553 3 = nI p) : p_X7_readCommand v ∧ ∃ w, f_X7_readCommand v = (nI 1, w) ∧ Ck v w ∧ w.1 553 3 = nI q ∧ w.1 553 2 = nI (k + 1) ∧ ∀ j, j < (its k).length → w.1 556 j = xs.getD j 0 := by
  obtain ⟨a, -, b⟩ := h v hv h3
  obtain ⟨N, b, c⟩ := b k q xs rfl
  refine ⟨a, _, b, (Ck.cs v q N).row 2 _, ?_, ?_, fun j hj => ?_⟩
  · rw [vM_rw, vRow_eq, upd_ne (by omega)]
    exact cS_p v q N
  · rw [vM_rw, vRow_eq, upd_eq]
  · rw [vM_rw, vRow_ne _ _ (by omega), cS_556]
    exact c j hj
/-! the reference -/
def Mk (u w : gV) : Prop := w.2 = u.2 ∧ (∀ j, ¬ j = 559 → ¬ j = 568 → ¬ j = 569 → w.1 j = u.1 j) ∧ ∀ k, ¬ k = 18 → ¬ k = 19 → ¬ k = 20 → w.1 559 k = u.1 559 k
theorem Mk.trans {v u t : gV} (h : Mk v u) (g : Mk u t) : Mk v t := ⟨g.1.trans h.1, fun j a b c => (g.2.1 j a b c).trans (h.2.1 j a b c), fun k a b c => (g.2.2 k a b c).trans (h.2.2 k a b c)⟩
theorem Mk.ms (u : gV) (p e : Nat) (A : Nat → Int32) : Mk u (mS u p e A) := ⟨rfl, fun _ a _ c => mS_o u p e A a c, fun _ a _ c => mS_k u p e A a c⟩
theorem Mk.c18 {u w : gV} (h : Mk u w) (x : Int32) : Mk u (vM w 559 18 x) := ⟨h.1, fun j a b c => by rw [vM_rw, vRow_ne _ _ a]; exact h.2.1 j a b c, fun k a b c => by rw [vM_rw, vRow_eq, upd_ne a]; exact h.2.2 k a b c⟩
theorem Mk.c20 {u w : gV} (h : Mk u w) (x : Int32) : Mk u (vM w 559 20 x) := ⟨h.1, fun j a b c => by rw [vM_rw, vRow_ne _ _ a]; exact h.2.1 j a b c, fun k a b c => by rw [vM_rw, vRow_eq, upd_ne c]; exact h.2.2 k a b c⟩
theorem md_559 (u : gV) (c k q : Nat) (A : Nat → Int32) {j : Nat} (h : ¬ j = 19) : (mdone u c k q A).1 559 j = (mS u q 0 A).1 559 j := by
  unfold mdone
  rw [vM_rw, vRow_eq, upd_ne h, vM_rw, vRow_ne _ _ (by omega)]
theorem md_19 (u : gV) (c k q : Nat) (A : Nat → Int32) : (mdone u c k q A).1 559 19 = nI (c + 1) := by
  unfold mdone
  rw [vM_rw, vRow_eq, upd_eq]
theorem md_568 (u : gV) (c k q : Nat) (A : Nat → Int32) : (mdone u c k q A).1 568 = upd (u.1 568) c (nI k) := by
  unfold mdone
  rw [vM_rw, vRow_ne _ _ (by omega), vM_rw, vRow_eq, mS_o _ _ _ _ (by omega) (by omega)]
theorem md_569 (u : gV) (c k q : Nat) (A : Nat → Int32) : (mdone u c k q A).1 569 = A := by
  unfold mdone
  rw [vM_rw, vRow_ne _ _ (by omega), vM_rw, vRow_ne _ _ (by omega), mS_569]
theorem mdn_o (u : gV) (c k q : Nat) (A : Nat → Int32) {j : Nat} (a : ¬ j = 559) (b : ¬ j = 568) (d : ¬ j = 569) : (mdone u c k q A).1 j = u.1 j := by
  unfold mdone
  rw [vM_rw, vRow_ne _ _ a, vM_rw, vRow_ne _ _ b, mS_o _ _ _ _ a d]
theorem Mk.md (u : gV) (c k q : Nat) (A : Nat → Int32) : Mk u (mdone u c k q A) := ⟨rfl, fun _ a b d => mdn_o u c k q A a b d, fun j a b d => by rw [md_559 _ _ _ _ _ b]; exact mS_k u q 0 A a d⟩
theorem TM.mk {T : Nat → Int32} {n c c' : Nat} {u w : gV} (h : Mk u w) (hu : TM T n c u) (hc : c' ≤ 10) (h19 : w.1 559 19 = nI c') : TM T n c' w := ⟨hu.1, hc, (h.2.2 17 (by omega) (by omega) (by omega)).trans hu.2.2.1, h19, fun i hi => by rw [h.2.1 567 (by omega) (by omega) (by omega)]; exact hu.2.2.2.2.1 i hi, hu.2.2.2.2.2⟩
theorem M_end {T : Nat → Int32} {n c : Nat} {w : gV} (h : TM T n c w) {q e : Nat} (hq : q ≤ n) (h18 : w.1 559 18 = nI q) (he : e ≤ 1) (h20 : w.1 559 20 = nI e) (hm : ¬ mk T n q e = nI 59) (fuel : Nat) : p_X12_parse_32 (fuel + 1) w ∧ f_X12_parse_32 (fuel + 1) w = vM w 559 20 (nI (if e = 0 ∧ n ≤ q then 0 else 1)) := by
  have hn := h.1
  have hs := mS_self h18 h20
  obtain ⟨k1, k2⟩ := K_mark h q e hq he (w.1 569)
  rw [hs] at k1 k2
  have hm' : ¬ mk T n q e = (59 : Int32) := hm
  have h79 : ∀ a b : Int32, ((b ||| a) = 0 ∨ (b ||| a) = 1) → p_X12_parse_79 a b w := fun a b h => by
    rw [p_X12_parse_79, p_X12_parse_83]
    exact ⟨h, trivial⟩
  have he2 : e = 0 ∨ e = 1 := by omega
  rw [p_X12_parse_32, f_X12_parse_32, k2, h.2.2.1, h18, h20, if_neg hm']
  by_cases c1 : n ≤ q
  · have g1 : nI n ≤ nI q := (le_n (by omega) (by omega)).mpr c1
    rw [if_pos g1, f_X12_parse_79, f_X12_parse_83]
    rcases he2 with rfl | rfl
    · rw [or00, if_pos ⟨rfl, c1⟩]
      exact ⟨⟨k1, fun g => absurd g hm', fun _ => ⟨fun _ => h79 _ _ (by rw [or00]; exact nIor.1), fun g => absurd g1 g⟩⟩, rfl⟩
    · rw [or10, if_neg (show ¬ ((1 : Nat) = 0 ∧ n ≤ q) by omega)]
      exact ⟨⟨k1, fun g => absurd g hm', fun _ => ⟨fun _ => h79 _ _ (by rw [or10]; exact nIor.2), fun g => absurd g1 g⟩⟩, rfl⟩
  · have g1 : ¬ nI n ≤ nI q := fun g => c1 ((le_n (by omega) (by omega)).mp g)
    rw [if_neg g1, f_X12_parse_79, f_X12_parse_83, if_neg (show ¬ (e = 0 ∧ n ≤ q) from fun g => c1 g.2)]
    rcases he2 with rfl | rfl
    · rw [or01]
      exact ⟨⟨k1, fun g => absurd g hm', fun _ => ⟨fun g => absurd g g1, fun _ => h79 _ _ (by rw [or01]; exact nIor.2)⟩⟩, rfl⟩
    · rw [or11]
      exact ⟨⟨k1, fun g => absurd g hm', fun _ => ⟨fun g => absurd g g1, fun _ => h79 _ _ (by rw [or11]; exact nIor.2)⟩⟩, rfl⟩
theorem M_semi {T : Nat → Int32} {n c : Nat} {w : gV} (h : TM T n c w) {q : Nat} (hq : q < n) (h59 : T q = nI 59) (h18 : w.1 559 18 = nI q) (h20 : w.1 559 20 = nI 0) (fuel : Nat) : (p_X12_command (vM w 559 18 (nI (q + 1))) → p_X12_parse_32 fuel (f_X12_command (vM w 559 18 (nI (q + 1)))) → p_X12_parse_32 (fuel + 1) w) ∧ f_X12_parse_32 (fuel + 1) w = f_X12_parse_32 fuel (f_X12_command (vM w 559 18 (nI (q + 1)))) := by
  have hs := mS_self h18 h20
  obtain ⟨k1, k2⟩ := K_mark h q 0 (by omega) (by omega) (w.1 569)
  rw [hs] at k1 k2
  have em : mk T n q 0 = (59 : Int32) := (if_pos ⟨rfl, hq⟩).trans h59
  have e1 : nI q + (1 : Int32) = nI (q + 1) := by rw [li_1, nI_add]
  rw [p_X12_parse_32, f_X12_parse_32, k2, h18, e1, if_pos em, f_X12_parse_51, f_X12_parse_55]
  refine ⟨fun a b => ⟨k1, fun _ => ?_, fun g => absurd em g⟩, rfl⟩
  rw [p_X12_parse_51, p_X12_parse_55]
  exact ⟨a, b⟩
/-! both -/
def Ch (T : Nat → Int32) (n : Nat) : List (Nat × List Int32) → Nat → Prop
  | [], _ => True
  | x :: L, p => p ≤ n ∧ ∃ q, CR T n p (Sum.inr (x.1, q, x.2)) ∧ SB n p (Sum.inr (x.1, q, x.2)) ∧ Ch T n L (q + 1)
def ML (L : List (Nat × List Int32)) (c : Nat) (u : gV) : Prop := ∀ i, i < L.length → u.1 568 (c + i) = nI (L.getD i (0, [])).1 ∧ ∀ j, j < (its (L.getD i (0, [])).1).length → u.1 569 (4 * (c + i) + j) = (L.getD i (0, [])).2.getD j 0
def cC (out : Sum Nat (List (Nat × List Int32))) (c : Nat) (w : gV) (r : Int32 × gV) : Prop := Ck w r.2 ∧ (∀ q, out = Sum.inl q → r.1 = (-1 : Int32) ∧ r.2.1 553 3 = nI q) ∧ ∀ L, out = Sum.inr L → r.1 = nI (c + L.length)
def cM (out : Sum Nat (List (Nat × List Int32))) (c : Nat) (u u' : gV) : Prop := Mk u u' ∧ (∀ q, out = Sum.inl q → u'.1 559 18 = nI q ∧ u'.1 559 20 = nI 1) ∧ ∀ L, out = Sum.inr L → u'.1 559 20 = nI 0 ∧ u'.1 559 19 = nI (c + L.length) ∧ ML L c u' ∧ (∀ i, i < c → u'.1 568 i = u.1 568 i) ∧ ∀ j, j < 4 * c → u'.1 569 j = u.1 569 j
theorem count_s {T : Nat → Int32} {n c : Nat} {w w1 : gV} {s : Int32} (hc : c ≤ 10) (hp : p_X7_readCommand w) (hf : f_X7_readCommand w = (s, w1)) (fuel : Nat) : (p_X7_countCommands_17 (fun x1 v => f_X7_countCommands_7 fuel x1 v) (fun x1 v => p_X7_countCommands_7 fuel x1 v) (nI (c + 1)) s w1 → p_X7_countCommands_7 (fuel + 1) (nI (c + 1)) w) ∧ f_X7_countCommands_7 (fuel + 1) (nI (c + 1)) w = f_X7_countCommands_17 (fun x1 v => f_X7_countCommands_7 fuel x1 v) (nI (c + 1)) s w1 := by
  have g : ¬ (60 : Int32) < nI (c + 1) := by
    rw [li_60, lt_n (by omega) (by omega)]
    omega
  rw [p_X7_countCommands_7, f_X7_countCommands_7, if_neg g, hf]
  exact ⟨fun h => ⟨fun g' => absurd g' g, fun _ => ⟨hp, h⟩⟩, rfl⟩
theorem Scr (T : Nat → Int32) {n : Nat} (hn : n ≤ 60) : ∀ (m p c : Nat), n < p + m → p ≤ n → 6 * c ≤ p → ∃ out : Sum Nat (List (Nat × List Int32)), (∀ L, out = Sum.inr L → Ch T n L p ∧ p + 5 * L.length ≤ n ∧ 1 ≤ L.length) ∧ (∀ q, out = Sum.inl q → q ≤ n) ∧ (∀ (w : gV) (fuel : Nat), m < fuel → TX T n w → w.1 553 3 = nI p → p_X7_countCommands_7 fuel (nI (c + 1)) w ∧ cC out c w (f_X7_countCommands_7 fuel (nI (c + 1)) w)) ∧ ∀ (u : gV) (fuel : Nat), m < fuel → TM T n c u → u.1 559 18 = nI p → u.1 559 20 = nI 0 → p_X12_command u ∧ p_X12_parse_32 fuel (f_X12_command u) ∧ cM out c u (f_X12_parse_32 fuel (f_X12_command u)) := by
  intro m
  induction m with
  | zero => intro p c h1 h2; omega
  | succ m ih =>
    intro p c h1 h2 h3
    obtain ⟨s, cr, mr, sb⟩ := K_cmd T h2
    cases s with
    | inl q =>
      have hq := sb.1 q rfl
      refine ⟨Sum.inl q, fun L hL => (by cases hL), fun q' hq' => by cases hq'; exact hq.2, fun w fuel hf hw hw3 => ?_, fun u fuel hf hu h18 h20 => ?_⟩
      · obtain ⟨fuel, rfl⟩ := fuel_s hf
        obtain ⟨r1, w1, r2, r3, r4⟩ := CR_no cr hw hw3
        obtain ⟨s1, s2⟩ := count_s (T := T) (n := n) (c := c) (by omega) r1 r2 fuel
        have g0 : nI 0 = 0 := rfl
        rw [f_X7_countCommands_17, if_pos g0] at s2
        rw [p_X7_countCommands_17] at s1
        refine ⟨s1 ⟨fun _ => trivial, fun g => absurd g0 g⟩, ?_⟩
        rw [s2]
        exact ⟨r3, fun q' hq' => by cases hq'; exact ⟨rfl, r4⟩, fun L hL => by cases hL⟩
      · obtain ⟨fuel, rfl⟩ := fuel_s hf
        obtain ⟨r1, r2, -⟩ := mr u c hu h18 h20
        obtain ⟨A, r2⟩ := r2 q rfl
        rw [r2]
        have hmk := Mk.ms u q 1 A
        have e19 : (mS u q 1 A).1 559 19 = nI c := by rw [mS_k _ _ _ _ (by omega) (by omega)]; exact hu.2.2.2.1
        have em : ¬ mk T n q 1 = nI 59 := by
          have e : mk T n q 1 = (-1 : Int32) := if_neg fun g => absurd g.1 (by omega)
          rw [e]
          exact m1_n (by omega)
        obtain ⟨t1, t2⟩ := M_end (hu.mk hmk hu.2.1 e19) (q := q) (e := 1) hq.2 (mS_18 u q 1 A) (by omega) (mS_20 u q 1 A) em fuel
        rw [if_neg (show ¬ ((1 : Nat) = 0 ∧ n ≤ q) by omega), mS_e] at t2
        rw [t2]
        refine ⟨r1, t1, hmk, fun q' hq' => ?_, fun L hL => by cases hL⟩
        cases hq'
        exact ⟨mS_18 u q 1 A, mS_20 u q 1 A⟩
    | inr z =>
      obtain ⟨k, q, xs⟩ := z
      obtain ⟨hk, hpq, hqn, hxl, hxs⟩ := sb.2 k q xs rfl
      have hc9 : c ≤ 9 := by omega
      -- the class behind the command
      have hcl : ∀ (w : gV) (fuel : Nat), TX T n w → w.1 553 3 = nI p → ∃ w1, Ck w w1 ∧ TX T n w1 ∧ w1.1 553 3 = nI q ∧ (p_X7_countCommands_17 (fun x1 v => f_X7_countCommands_7 fuel x1 v) (fun x1 v => p_X7_countCommands_7 fuel x1 v) (nI (c + 1)) (nI 1) w1 → p_X7_countCommands_7 (fuel + 1) (nI (c + 1)) w) ∧ f_X7_countCommands_7 (fuel + 1) (nI (c + 1)) w = f_X7_countCommands_17 (fun x1 v => f_X7_countCommands_7 fuel x1 v) (nI (c + 1)) (nI 1) w1 := fun w fuel hw hw3 => by
        obtain ⟨r1, w1, r2, r3, r4, -, -⟩ := CR_ok cr hw hw3
        obtain ⟨s1, s2⟩ := count_s (T := T) (n := n) (c := c) (by omega) r1 r2 fuel
        exact ⟨w1, r3, hw.ck r3, r4, s1, s2⟩
      -- the reference behind the command
      have hml : ∀ u : gV, TM T n c u → u.1 559 18 = nI p → u.1 559 20 = nI 0 → p_X12_command u ∧ ∃ w, f_X12_command u = w ∧ Mk u w ∧ TM T n (c + 1) w ∧ w.1 559 18 = nI q ∧ w.1 559 20 = nI 0 ∧ w.1 568 c = nI k ∧ (∀ i, i < c → w.1 568 i = u.1 568 i) ∧ (∀ j, j < (its k).length → w.1 569 (4 * c + j) = xs.getD j 0) ∧ ∀ j, j < 4 * c → w.1 569 j = u.1 569 j := fun u hu h18 h20 => by
        obtain ⟨r1, -, r2⟩ := mr u c hu h18 h20
        obtain ⟨A, r2, r3, r4⟩ := r2 k q xs rfl
        refine ⟨r1, _, r2, Mk.md u c k q A, hu.mk (Mk.md u c k q A) (by omega) (md_19 u c k q A), ?_, ?_, ?_, fun i hi => ?_, fun j hj => ?_, fun j hj => ?_⟩
        · rw [md_559 _ _ _ _ _ (by omega), mS_18]
        · rw [md_559 _ _ _ _ _ (by omega), mS_20]
        · rw [md_568, upd_eq]
        · rw [md_568, upd_ne (by omega)]
        · rw [md_569]
          exact r3 j hj
        · rw [md_569]
          exact r4 j hj
      have n1 : ¬ nI 1 = 0 := n10
      by_cases h59 : q < n ∧ T q = nI 59
      · obtain ⟨hqn2, h59⟩ := h59
        obtain ⟨out, o1, o2, o3, o4⟩ := ih (q + 1) (c + 1) (by omega) (by omega) (by omega)
        have hC : ∀ (w : gV) (fuel : Nat), m + 1 < fuel → TX T n w → w.1 553 3 = nI p → ∃ r, p_X7_countCommands_7 fuel (nI (c + 1)) w ∧ f_X7_countCommands_7 fuel (nI (c + 1)) w = r ∧ ∃ w2, Ck w w2 ∧ cC out (c + 1) w2 r := fun w fuel hf hw hw3 => by
          obtain ⟨fuel, rfl⟩ := fuel_s hf
          obtain ⟨w1, r3, r4, r5, s1, s2⟩ := hcl w fuel hw hw3
          have hlen : f_J4_length_8abf5 554 w1 = nI n := r4.2.1
          have hch : f_J4_charAt_5068e 554 (nI q) w1 = (59 : Int32) := by
            show w1.1 555 (nI q).toNatClampNeg = _
            rw [cl_n (by omega), r4.2.2 q hqn2]
            exact h59
          have hcp : p_J4_charAt_5068e 554 (nI q) w1 := by
            show vp_in (nI q) (w1.1 554 3).toNatClampNeg
            rw [r4.2.1, cl_n (by omega)]
            exact vi_n hqn2 (by omega)
          have g1 : nI q < nI n := (lt_n (by omega) (by omega)).mpr hqn2
          have e1 : nI q + (1 : Int32) = nI (q + 1) := by rw [li_1, nI_add]
          have e2 : nI (c + 1) + (1 : Int32) = nI (c + 1 + 1) := by rw [li_1, nI_add]
          rw [f_X7_countCommands_17, if_neg n1, hlen, r5, if_pos g1, if_pos hch, e1, f_X7_countCommands_66, e2] at s2
          rw [p_X7_countCommands_17, hlen, r5, e1, p_X7_countCommands_66, e2] at s1
          have hck : Ck w (vM w1 553 3 (nI (q + 1))) := r3.row 3 _
          obtain ⟨t1, t2⟩ := o3 (vM w1 553 3 (nI (q + 1))) fuel (by omega) (hw.ck hck) (by rw [vM_rw, vRow_eq, upd_eq])
          exact ⟨_, s1 ⟨fun g => absurd g n1, fun _ => ⟨trivial, fun _ => ⟨hcp, fun _ => t1, fun _ => trivial⟩, fun _ => trivial⟩⟩, s2, _, hck, t2⟩
        have hM : ∀ (u : gV) (fuel : Nat), m + 1 < fuel → TM T n c u → u.1 559 18 = nI p → u.1 559 20 = nI 0 → p_X12_command u ∧ p_X12_parse_32 fuel (f_X12_command u) ∧ ∃ u', f_X12_parse_32 fuel (f_X12_command u) = u' ∧ ∃ w, Mk u w ∧ w.1 568 c = nI k ∧ (∀ i, i < c → w.1 568 i = u.1 568 i) ∧ (∀ j, j < (its k).length → w.1 569 (4 * c + j) = xs.getD j 0) ∧ (∀ j, j < 4 * c → w.1 569 j = u.1 569 j) ∧ cM out (c + 1) w u' := fun u fuel hf hu h18 h20 => by
          obtain ⟨fuel, rfl⟩ := fuel_s hf
          obtain ⟨r1, w, r2, r3, r4, r5, r6, r7, r8, r9, r10⟩ := hml u hu h18 h20
          obtain ⟨s1, s2⟩ := M_semi r4 hqn2 h59 r5 r6 fuel
          have hmk : Mk w (vM w 559 18 (nI (q + 1))) := Mk.c18 ⟨rfl, fun _ _ _ _ => rfl, fun _ _ _ _ => rfl⟩ _
          have e568 : (vM w 559 18 (nI (q + 1))).1 568 = w.1 568 := by rw [vM_rw, vRow_ne _ _ (by omega)]
          have e569 : (vM w 559 18 (nI (q + 1))).1 569 = w.1 569 := by rw [vM_rw, vRow_ne _ _ (by omega)]
          obtain ⟨t1, t2, t3⟩ := o4 (vM w 559 18 (nI (q + 1))) fuel (by omega) (r4.mk hmk r4.2.1 (by rw [vM_rw, vRow_eq, upd_ne (by omega)]; exact r4.2.2.2.1)) (by rw [vM_rw, vRow_eq, upd_eq]) (by rw [vM_rw, vRow_eq, upd_ne (by omega)]; exact r6)
          rw [r2]
          exact ⟨r1, s1 t1 t2, _, s2, _, r3.trans hmk, by rw [e568]; exact r7, fun i hi => by rw [e568]; exact r8 i hi, fun j hj => by rw [e569]; exact r9 j hj, fun j hj => by rw [e569]; exact r10 j hj, t3⟩
        clear o3 o4
        cases out with
        | inl q' =>
          refine ⟨Sum.inl q', fun L hL => (by cases hL), fun q2 hq2 => by cases hq2; exact o2 q' rfl, fun w fuel hf hw hw3 => ?_, fun u fuel hf hu h18 h20 => ?_⟩
          · obtain ⟨r, a1, a2, w2, a3, a4, a5, a6⟩ := hC w fuel hf hw hw3
            rw [a2]
            exact ⟨a1, a3.trans a4, fun q2 hq2 => a5 q2 hq2, fun L hL => by cases hL⟩
          · obtain ⟨a1, a2, u', a3, w, a4, a5, a6, a7, a8, a9, a10, a11⟩ := hM u fuel hf hu h18 h20
            rw [a3]
            exact ⟨a1, a2, a4.trans a9, fun q2 hq2 => a10 q2 hq2, fun L hL => by cases hL⟩
        | inr L =>
          obtain ⟨b1, b2, b3⟩ := o1 L rfl
          refine ⟨Sum.inr ((k, xs) :: L), fun L' hL' => ?_, fun q2 hq2 => (by cases hq2), fun w fuel hf hw hw3 => ?_, fun u fuel hf hu h18 h20 => ?_⟩
          · cases hL'
            have e : ((k, xs) :: L).length = L.length + 1 := rfl
            exact ⟨⟨h2, q, cr, sb, b1⟩, by omega, by omega⟩
          · obtain ⟨r, a1, a2, w2, a3, a4, a5, a6⟩ := hC w fuel hf hw hw3
            rw [a2]
            refine ⟨a1, a3.trans a4, fun q2 hq2 => (by cases hq2), fun L' hL' => ?_⟩
            cases hL'
            rw [a6 L rfl]
            congr 1
            show c + 1 + L.length = c + (L.length + 1)
            omega
          · obtain ⟨a1, a2, u', a3, w, a4, a5, a6, a7, a8, a9, a10, a11⟩ := hM u fuel hf hu h18 h20
            rw [a3]
            refine ⟨a1, a2, a4.trans a9, fun q2 hq2 => (by cases hq2), fun L' hL' => ?_⟩
            cases hL'
            obtain ⟨d1, d2, d3, d4, d5⟩ := a11 L rfl
            refine ⟨d1, ?_, fun i hi => ?_, fun i hi => ?_, fun j hj => ?_⟩
            · rw [d2]
              congr 1
              show c + 1 + L.length = c + (L.length + 1)
              omega
            · cases i with
              | zero =>
                refine ⟨?_, fun j hj => ?_⟩
                · show u'.1 568 (c + 0) = nI k
                  rw [Nat.add_zero, d4 c (by omega)]
                  exact a5
                · have hj : j < (its k).length := hj
                  have h4 := (its_len k hk).1
                  show u'.1 569 (4 * (c + 0) + j) = xs.getD j 0
                  rw [Nat.add_zero, d5 _ (by omega)]
                  exact a7 j hj
              | succ i =>
                have := d3 i (Nat.lt_of_succ_lt_succ hi)
                rw [show c + 1 + i = c + (i + 1) by omega] at this
                exact this
            · rw [d4 i (by omega)]
              exact a6 i hi
            · rw [d5 j (by omega)]
              exact a8 j hj
      · by_cases hqn2 : q < n
        · -- something else stands behind the command
          have hne : ¬ T q = nI 59 := fun g => h59 ⟨hqn2, g⟩
          refine ⟨Sum.inl q, fun L hL => (by cases hL), fun q' hq' => by cases hq'; exact hqn, fun w fuel hf hw hw3 => ?_, fun u fuel hf hu h18 h20 => ?_⟩
          · obtain ⟨fuel, rfl⟩ := fuel_s hf
            obtain ⟨w1, r3, r4, r5, s1, s2⟩ := hcl w fuel hw hw3
            have hlen : f_J4_length_8abf5 554 w1 = nI n := r4.2.1
            have hch : ¬ f_J4_charAt_5068e 554 (nI q) w1 = (59 : Int32) := by
              show ¬ w1.1 555 (nI q).toNatClampNeg = _
              rw [cl_n (by omega), r4.2.2 q hqn2]
              exact hne
            have hcp : p_J4_charAt_5068e 554 (nI q) w1 := by
              show vp_in (nI q) (w1.1 554 3).toNatClampNeg
              rw [r4.2.1, cl_n (by omega)]
              exact vi_n hqn2 (by omega)
            have g1 : nI q < nI n := (lt_n (by omega) (by omega)).mpr hqn2
            rw [f_X7_countCommands_17, if_neg n1, hlen, r5, if_pos g1, if_neg hch] at s2
            rw [p_X7_countCommands_17, hlen, r5] at s1
            rw [s2]
            exact ⟨s1 ⟨fun g => absurd g n1, fun _ => ⟨trivial, fun _ => ⟨hcp, fun g => absurd g hch, fun _ => trivial⟩, fun _ => trivial⟩⟩, r3, fun q' hq' => by cases hq'; exact ⟨rfl, r5⟩, fun L hL => by cases hL⟩
          · obtain ⟨fuel, rfl⟩ := fuel_s hf
            obtain ⟨r1, w, r2, r3, r4, r5, r6, -⟩ := hml u hu h18 h20
            have em : ¬ mk T n q 0 = nI 59 := by
              have e : mk T n q 0 = T q := if_pos ⟨rfl, hqn2⟩
              rw [e]
              exact hne
            obtain ⟨t1, t2⟩ := M_end r4 (q := q) (e := 0) hqn r5 (by omega) r6 em fuel
            rw [if_neg (show ¬ ((0 : Nat) = 0 ∧ n ≤ q) by omega)] at t2
            rw [r2, t2]
            refine ⟨r1, t1, r3.c20 _, fun q' hq' => ?_, fun L hL => by cases hL⟩
            cases hq'
            exact ⟨by rw [vM_rw, vRow_eq, upd_ne (by omega)]; exact r5, by rw [vM_rw, vRow_eq, upd_eq]⟩
        · -- the script's end
          have hqe : q = n := by omega
          refine ⟨Sum.inr [(k, xs)], fun L hL => ?_, fun q' hq' => (by cases hq'), fun w fuel hf hw hw3 => ?_, fun u fuel hf hu h18 h20 => ?_⟩
          · cases hL
            exact ⟨⟨h2, q, cr, sb, trivial⟩, by show p + 5 * 1 ≤ n; omega, Nat.le_refl _⟩
          · obtain ⟨fuel, rfl⟩ := fuel_s hf
            obtain ⟨w1, r3, r4, r5, s1, s2⟩ := hcl w fuel hw hw3
            have hlen : f_J4_length_8abf5 554 w1 = nI n := r4.2.1
            have g1 : ¬ nI q < nI n := fun g => hqn2 ((lt_n (by omega) (by omega)).mp g)
            rw [f_X7_countCommands_17, if_neg n1, hlen, r5, if_neg g1] at s2
            rw [p_X7_countCommands_17, hlen, r5] at s1
            rw [s2]
            refine ⟨s1 ⟨fun g => absurd g n1, fun _ => ⟨trivial, fun g => absurd g g1, fun _ => trivial⟩⟩, r3, fun q' hq' => (by cases hq'), fun L hL => ?_⟩
            cases hL
            rfl
          · obtain ⟨fuel, rfl⟩ := fuel_s hf
            obtain ⟨r1, w, r2, r3, r4, r5, r6, r7, r8, r9, r10⟩ := hml u hu h18 h20
            have em : ¬ mk T n q 0 = nI 59 := by
              have e : mk T n q 0 = (-1 : Int32) := if_neg fun g => hqn2 g.2
              rw [e]
              exact m1_n (by omega)
            obtain ⟨t1, t2⟩ := M_end r4 (q := q) (e := 0) hqn r5 (by omega) r6 em fuel
            rw [if_pos (show (0 : Nat) = 0 ∧ n ≤ q by omega)] at t2
            rw [r2, t2]
            have e568 : (vM w 559 20 (nI 0)).1 568 = w.1 568 := by rw [vM_rw, vRow_ne _ _ (by omega)]
            have e569 : (vM w 559 20 (nI 0)).1 569 = w.1 569 := by rw [vM_rw, vRow_ne _ _ (by omega)]
            refine ⟨r1, t1, r3.c20 _, fun q' hq' => (by cases hq'), fun L hL => ?_⟩
            cases hL
            refine ⟨by rw [vM_rw, vRow_eq, upd_eq], by rw [vM_rw, vRow_eq, upd_ne (by omega)]; exact r4.2.2.2.1, fun i hi => ?_, fun i hi => by rw [e568]; exact r8 i hi, fun j hj => by rw [e569]; exact r10 j hj⟩
            have hi : i < 1 := hi
            have : i = 0 := by omega
            subst this
            rw [e568, e569]
            exact ⟨r7, r9⟩
