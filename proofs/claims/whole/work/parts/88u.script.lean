/-! runScript, on both sides -/
theorem J.ck {B : Nat} {v w : gV} (h : Ck v w) (hJ : J B v) : J B w := by
  obtain ⟨j1, j2, j3, j4, j5, j6⟩ := hJ
  refine ⟨?_, ?_, ?_, ?_, ?_, ?_⟩
  · rw [h.2 560 (by omega) (by omega)]
    exact j1.same fun j a b => h.2 j (by omega) (by omega)
  · exact JH_same j2 (h.2 101 (by omega) (by omega)) (by rw [h.2 559 (by omega) (by omega)]) (h.2 563 (by omega) (by omega)) fun o d _ _ _ _ j a b _ => h.2 j (by omega) (by omega)
  · unfold JS
    rw [h.2 0 (by omega) (by omega), h.2 559 (by omega) (by omega), h.2 562 (by omega) (by omega)]
    exact j3.imp id fun ⟨a, b, c⟩ => ⟨a, b, c.same fun j h1 h2 => h.2 j (by omega) (by omega)⟩
  · unfold JT
    rw [h.2 554 (by omega) (by omega), h.2 555 (by omega) (by omega), h.2 559 (by omega) (by omega), h.2 567 (by omega) (by omega)]
    exact j4
  · unfold JO
    rw [h.2 557 (by omega) (by omega), h.2 558 (by omega) (by omega), h.2 559 (by omega) (by omega), h.2 566 (by omega) (by omega)]
    exact j5
  · unfold JE
    rw [h.2 0 (by omega) (by omega), h.2 559 (by omega) (by omega)]
    exact j6
theorem J_scr {B B' : Nat} {v u : gV} (hB : B ≤ B') (hJ : J B v) (hb : BRx B' u 1 (u.1 560)) (hh : JH B' u) (h51 : ∀ j, 51 ≤ j → j < 101 → u.1 j = v.1 j) (h05 : u.1 0 5 = v.1 0 5) (h557 : u.1 557 = v.1 557) (h558 : u.1 558 = v.1 558) (h554 : u.1 554 3 = nI 0) (h16 : u.1 559 16 = nI 0) (h10 : u.1 559 10 = v.1 559 10) (h12 : u.1 559 12 = v.1 559 12) (h562 : u.1 562 = v.1 562) (h566 : u.1 566 = v.1 566) (hE : JE u) : J B' u := by
  obtain ⟨-, -, j3, j4, j5, j6⟩ := hJ
  refine ⟨hb, hh, ?_, ⟨0, by omega, h554, h16, fun i hi => absurd hi (Nat.not_lt_zero _)⟩, ?_, hE⟩
  · unfold JS
    rw [h05, h10, h562]
    exact j3.imp id fun ⟨a, b, c⟩ => ⟨a, b, (c.mono hB).same fun j h1 h2 => h51 j h1 (by omega)⟩
  · unfold JO
    rw [h557, h558, h12, h566]
    exact j5
theorem vM_559 (w : gV) (k : Nat) (x : Int32) : (vM w 559 k x).1 559 = upd (w.1 559) k x := by rw [vM_rw, vRow_eq]
theorem vM_o (w : gV) (j k : Nat) (x : Int32) {i : Nat} (h : ¬ i = j) : (vM w j k x).1 i = w.1 i := by rw [vM_rw, vRow_ne _ _ h]
/-- the reference's beginning, as far as its first command -/
def Pr (u u1 : gV) : Prop := u1.2 = u.2 ∧ (∀ j, ¬ j = 559 → ¬ j = 561 → u1.1 j = u.1 j) ∧ (∀ k, ¬ k = 6 → (k < 16 ∨ 20 < k) → u1.1 559 k = u.1 559 k) ∧ u1.1 559 6 = nI 0 ∧ u1.1 559 16 = nI 0 ∧ ∀ k, k < 300 → u1.1 561 k = u.1 560 k
def st0 (ub : gV) (n : Nat) : gV := vM (vM (vM (vM (vM ub 559 17 (nI n)) 559 16 (nI 0)) 559 18 (nI 0)) 559 19 (nI 0)) 559 20 (nI 0)
theorem st0_at (ub : gV) (n : Nat) : (st0 ub n).2 = ub.2 ∧ (∀ j, ¬ j = 559 → (st0 ub n).1 j = ub.1 j) ∧ (∀ k, (k < 16 ∨ 20 < k) → (st0 ub n).1 559 k = ub.1 559 k) ∧ (st0 ub n).1 559 16 = nI 0 ∧ (st0 ub n).1 559 17 = nI n ∧ (st0 ub n).1 559 18 = nI 0 ∧ (st0 ub n).1 559 19 = nI 0 ∧ (st0 ub n).1 559 20 = nI 0 := by
  have e : (st0 ub n).1 559 = upd (upd (upd (upd (upd (ub.1 559) 17 (nI n)) 16 (nI 0)) 18 (nI 0)) 19 (nI 0)) 20 (nI 0) := by
    unfold st0
    rw [vM_559, vM_559, vM_559, vM_559, vM_559]
  refine ⟨rfl, fun j h1 => ?_, fun k h => ?_, ?_, ?_, ?_, ?_, ?_⟩
  · unfold st0
    rw [vM_o _ _ _ _ h1, vM_o _ _ _ _ h1, vM_o _ _ _ _ h1, vM_o _ _ _ _ h1, vM_o _ _ _ _ h1]
  · rw [e, upd_ne (by omega), upd_ne (by omega), upd_ne (by omega), upd_ne (by omega), upd_ne (by omega)]
  · rw [e, upd_ne (by omega), upd_ne (by omega), upd_ne (by omega), upd_eq]
  · rw [e, upd_ne (by omega), upd_ne (by omega), upd_ne (by omega), upd_ne (by omega), upd_eq]
  · rw [e, upd_ne (by omega), upd_ne (by omega), upd_eq]
  · rw [e, upd_ne (by omega), upd_eq]
  · rw [e, upd_eq]
theorem PAR28 (w : gV) : f_X12_parse_28 w = f_X12_parse_32 5000 (f_X12_command w) ∧ (p_X12_parse_28 w ↔ (p_X12_command w ∧ p_X12_parse_32 5000 (f_X12_command w))) := by
  rw [f_X12_parse_28, p_X12_parse_28]
  exact ⟨rfl, Iff.rfl⟩
theorem PAR_a (f28 : gV → gV) (p28 : gV → Prop) (ub : gV) (n : Nat) (h16 : ub.1 559 16 = nI n) : f28 (vM (vM (vM (vM (vM ub 559 17 (ub.1 559 16)) 559 16 (0 : Int32)) 559 18 (0 : Int32)) 559 19 (0 : Int32)) 559 20 (0 : Int32)) = f28 (st0 ub n) ∧ (p28 (st0 ub n) → p28 (vM (vM (vM (vM (vM ub 559 17 (ub.1 559 16)) 559 16 (0 : Int32)) 559 18 (0 : Int32)) 559 19 (0 : Int32)) 559 20 (0 : Int32))) := by
  unfold st0
  rw [h16, li_0]
  exact ⟨rfl, id⟩
theorem PAR23 (ub : gV) (n : Nat) (h16 : ub.1 559 16 = nI n) : f_X12_parse ub = f_X12_parse_28 (st0 ub n) ∧ (p_X12_parse_28 (st0 ub n) → p_X12_parse ub) := by
  have h := PAR_a f_X12_parse_28 p_X12_parse_28 ub n h16
  rw [f_X12_parse, f_X12_parse_0, f_X12_parse_8, f_X12_parse_13, f_X12_parse_18, f_X12_parse_23, p_X12_parse, p_X12_parse_0, p_X12_parse_8, p_X12_parse_13, p_X12_parse_18, p_X12_parse_23]
  exact h
theorem PRS_a {T : Nat → Int32} {n : Nat} {u ub : gV} (hn : n ≤ 60) (h16 : u.1 559 16 = nI n) (hT : ∀ i, i < n → u.1 567 i = T i) (hr : ∀ i, i < n → 32 ≤ (T i).toInt ∧ (T i).toInt ≤ 126) (b1 : ub.2 = u.2) (b2 : ∀ j, ¬ j = 559 → ¬ j = 561 → ub.1 j = u.1 j) (b3 : ub.1 559 = upd (u.1 559) 6 (nI 0)) (b4 : ∀ k, k < 300 → ub.1 561 k = u.1 560 k) : TM T n 0 (st0 ub n) ∧ (st0 ub n).1 559 18 = nI 0 ∧ (st0 ub n).1 559 20 = nI 0 ∧ Pr u (st0 ub n) := by
  obtain ⟨a1, a2, a3, a4, a5, a6, a7, a8⟩ := st0_at ub n
  generalize st0 ub n = w at a1 a2 a3 a4 a5 a6 a7 a8 ⊢
  refine ⟨⟨hn, by omega, a5, a7, fun i hi => ?_, hr⟩, a6, a8, a1.trans b1, fun j h1 h2 => (a2 j h1).trans (b2 j h1 h2), fun k h1 h2 => ?_, ?_, a4, fun k hk => ?_⟩
  · rw [a2 567 (by omega), b2 567 (by omega) (by omega)]
    exact hT i hi
  · rw [a3 k h2, b3, upd_ne h1]
  · rw [a3 6 (by omega), b3, upd_eq]
  · rw [a2 561 (by omega)]
    exact b4 k hk
theorem PRS {T : Nat → Int32} {n : Nat} {u : gV} (hn : n ≤ 60) (h16 : u.1 559 16 = nI n) (hT : ∀ i, i < n → u.1 567 i = T i) (hr : ∀ i, i < n → 32 ≤ (T i).toInt ∧ (T i).toInt ≤ 126) : ∃ u1, TM T n 0 u1 ∧ u1.1 559 18 = nI 0 ∧ u1.1 559 20 = nI 0 ∧ Pr u u1 ∧ (p_X12_parse_28 u1 → p_X12_begin u ∧ p_X12_parse (f_X12_begin u)) ∧ f_X12_parse (f_X12_begin u) = f_X12_parse_28 u1 := by
  obtain ⟨b1, b2, b3, b4⟩ := begin_at u
  have bp := (K_begin u).1
  have h := fun (ub : gV) b1 b2 b3 b4 => PRS_a (ub := ub) hn h16 hT hr b1 b2 b3 b4
  have hq := PAR23 (f_X12_begin u) n (by rw [b3, upd_ne (by omega)]; exact h16)
  obtain ⟨h1, h2, h3, h4⟩ := h _ b1 b2 b3 b4
  obtain ⟨q1, q2⟩ := hq
  exact ⟨st0 (f_X12_begin u) n, h1, h2, h3, h4, fun g => ⟨bp, q2 g⟩, q1⟩
/-! the three ends -/
theorem fin1 {B q : Nat} {v u u1 u' : gV} (hJ : J B v) (hu : u.1 = (vM (vM v 0 6 (nI q)) 554 3 (nI 0)).1) (h1 : Pr u u1) (h2 : Mk u1 u') : (vM (vM u' 559 8 (nI q)) 559 6 (nI 1)).1 559 6 = nI 1 ∧ J (B + 64) (vM (vM u' 559 8 (nI q)) 559 6 (nI 1)) := by
  obtain ⟨p1, p2, p3, p4, p5, p6⟩ := h1
  obtain ⟨k1, k2, k3⟩ := h2
  have hv : ∀ j, ¬ j = 0 → ¬ j = 554 → u.1 j = v.1 j := fun j a b => by rw [hu, vM_o _ _ _ _ b, vM_o _ _ _ _ a]
  have h0 : u.1 0 = upd (v.1 0) 6 (nI q) := by rw [hu, vM_o _ _ _ _ (by omega), vM_rw, vRow_eq]
  have h554 : u.1 554 3 = nI 0 := by rw [hu, vM_rw, vRow_eq, upd_eq]
  refine ⟨by rw [vM_559, upd_eq], ?_⟩
  have c1 : ∀ j, ¬ j = 559 → (vM (vM u' 559 8 (nI q)) 559 6 (nI 1)).1 j = u'.1 j := fun j a => by rw [vM_o _ _ _ _ a, vM_o _ _ _ _ a]
  have c2 : ∀ k, ¬ k = 6 → ¬ k = 8 → (vM (vM u' 559 8 (nI q)) 559 6 (nI 1)).1 559 k = u'.1 559 k := fun k a b => by rw [vM_559, vM_559, upd_ne a, upd_ne b]
  have c3 : (vM (vM u' 559 8 (nI q)) 559 6 (nI 1)).1 559 8 = nI q := by rw [vM_559, vM_559, upd_ne (by omega), upd_eq]
  generalize vM (vM u' 559 8 (nI q)) 559 6 (nI 1) = uf at c1 c2 c3 ⊢
  have a1 : ∀ j, ¬ j = 559 → ¬ j = 561 → ¬ j = 568 → ¬ j = 569 → uf.1 j = u.1 j := fun j a b c d => by rw [c1 j a, k2 j a c d, p2 j a b]
  have a2 : ∀ j, ¬ j = 0 → ¬ j = 554 → ¬ j = 559 → ¬ j = 561 → ¬ j = 568 → ¬ j = 569 → uf.1 j = v.1 j := fun j a b c d e f => by rw [a1 j c d e f, hv j a b]
  have a3 : ∀ k, ¬ k = 6 → ¬ k = 8 → k < 16 → uf.1 559 k = v.1 559 k := fun k a b c => by rw [c2 k a b, k3 k (by omega) (by omega) (by omega), p3 k a (Or.inl c), hv 559 (by omega) (by omega)]
  refine J_scr (B := B) (v := v) (by omega) hJ ?_ ?_ (fun j a b => a2 j (by omega) (by omega) (by omega) (by omega) (by omega) (by omega)) ?_ (a2 557 (by omega) (by omega) (by omega) (by omega) (by omega) (by omega)) (a2 558 (by omega) (by omega) (by omega) (by omega) (by omega) (by omega)) ?_ ?_ (a3 10 (by omega) (by omega) (by omega)) (a3 12 (by omega) (by omega) (by omega)) (a2 562 (by omega) (by omega) (by omega) (by omega) (by omega) (by omega)) (a2 566 (by omega) (by omega) (by omega) (by omega) (by omega) (by omega)) ⟨?_, ?_⟩
  · rw [a2 560 (by omega) (by omega) (by omega) (by omega) (by omega) (by omega)]
    exact (hJ.1.mono (by omega)).same fun j a b => a2 j (by omega) (by omega) (by omega) (by omega) (by omega) (by omega)
  · exact (JH_same hJ.2.1 (a2 101 (by omega) (by omega) (by omega) (by omega) (by omega) (by omega)) (a3 7 (by omega) (by omega) (by omega)) (a2 563 (by omega) (by omega) (by omega) (by omega) (by omega) (by omega)) fun o d _ _ _ _ j a b _ => a2 j (by omega) (by omega) (by omega) (by omega) (by omega) (by omega)).mono (by omega)
  · rw [a1 0 (by omega) (by omega) (by omega) (by omega), h0, upd_ne (by omega)]
  · rw [a1 554 (by omega) (by omega) (by omega) (by omega)]
    exact h554
  · rw [c2 16 (by omega) (by omega), k3 16 (by omega) (by omega) (by omega)]
    exact p5
  · rw [a1 0 (by omega) (by omega) (by omega) (by omega), h0, upd_eq, c3]
  · rw [a1 0 (by omega) (by omega) (by omega) (by omega), h0, upd_ne (by omega), a3 9 (by omega) (by omega) (by omega)]
    exact hJ.2.2.2.2.2.2
/-- what the class' states have in common: v before, vp with the spare filled, wf behind the last command -/
theorem fin2 {B B1 o d : Nat} {v vp wf vk u u1 u' u2 : gV} (hJ : J B v) (hB1 : B ≤ B1) (hB2 : B1 ≤ B + 64) (ho : o < 9) (hd : d ≤ 8) (h1 : v.1 101 1 = nI o) (h2 : v.1 101 2 = nI d) (h7 : v.1 559 7 = nI d) (hh : ∀ i, i < d → BRx B v (103 + 50 * ((o + i) % 9)) (fun k => v.1 563 (300 * i + k))) (pne : ∀ j, j < 103 + 50 * ((o + d) % 9) ∨ 103 + 50 * ((o + d) % 9) + 50 ≤ j → vp.1 j = v.1 j) (psp : ∀ q k, rel q k → vp.1 (103 + 50 * ((o + d) % 9) + q) k = v.1 (1 + q) k) (hE : Ek (vM vp 553 3 (nI 0)) wf) (kne : ∀ j, ¬ j = 101 → vk.1 j = (vM wf 554 3 (nI 0)).1 j) (k101 : vk.1 101 = if d = 8 then upd (v.1 101) 1 (nI ((o + 1) % 9)) else upd (v.1 101) 2 (nI (d + 1))) (hu : u.1 = vk.1) (p : Pr u u1) (hm : Mk u1 u') (hD : Dk u' u2) (hb : BRx B1 wf 1 (u2.1 560)) : u2.1 559 7 = nI d ∧ (vRow (vRow u2 563 (his (u2.1 563) (u2.1 561) d)) 559 (upd (u2.1 559) 7 (nI (if d = 8 then 8 else d + 1)))).1 559 6 = nI 0 ∧ J (B + 64) (vRow (vRow u2 563 (his (u2.1 563) (u2.1 561) d)) 559 (upd (u2.1 559) 7 (nI (if d = 8 then 8 else d + 1)))) := by
  obtain ⟨p1, p2, p3, p4, p5, p6⟩ := p
  obtain ⟨m1, m2, m3⟩ := hm
  have hlt : (o + d) % 9 < 9 := Nat.mod_lt _ (by decide)
  -- the class' rows
  have w1 : ∀ j, j = 0 ∨ 51 ≤ j → ¬ j = 553 → ¬ j = 556 → wf.1 j = vp.1 j := fun j a b c => by rw [hE.2 j a b c, vM_o _ _ _ _ b]
  have w2 : ∀ j, ¬ j = 101 → ¬ j = 554 → vk.1 j = wf.1 j := fun j a b => by rw [kne j a, vM_o _ _ _ _ b]
  have w3 : vk.1 554 3 = nI 0 := by rw [kne 554 (by omega), vM_rw, vRow_eq, upd_eq]
  -- the reference's rows
  have r1 : ∀ j, ¬ j = 559 → ¬ j = 560 → ¬ j = 561 → ¬ j = 564 → ¬ j = 565 → ¬ j = 568 → ¬ j = 569 → u2.1 j = vk.1 j := fun j a b c d e f g => by rw [hD.2 j b d e, m2 j a f g, p2 j a c, hu]
  have hkv : ∀ j, j = 0 ∨ 51 ≤ j → ¬ j = 101 → ¬ j = 553 → ¬ j = 554 → ¬ j = 556 → (j < 103 + 50 * ((o + d) % 9) ∨ 103 + 50 * ((o + d) % 9) + 50 ≤ j) → vk.1 j = v.1 j := fun j a b c d e f => by rw [w2 j b d, w1 j a c e, pne j f]
  have r2 : ∀ k, ¬ k = 6 → k < 16 → u2.1 559 k = v.1 559 k := fun k a b => by
    rw [hD.2 559 (by omega) (by omega) (by omega), m3 k (by omega) (by omega) (by omega), p3 k a (Or.inl b), hu, hkv 559 (by omega) (by omega) (by omega) (by omega) (by omega) (by omega)]
  have r6 : u2.1 559 6 = nI 0 := by
    rw [hD.2 559 (by omega) (by omega) (by omega), m3 6 (by omega) (by omega) (by omega)]
    exact p4
  have r16 : u2.1 559 16 = nI 0 := by
    rw [hD.2 559 (by omega) (by omega) (by omega), m3 16 (by omega) (by omega) (by omega)]
    exact p5
  have hP : ∀ k, k < 300 → u2.1 561 k = v.1 560 k := fun k hk => by
    rw [hD.2 561 (by omega) (by omega) (by omega), m2 561 (by omega) (by omega) (by omega), p6 k hk, hu, hkv 560 (by omega) (by omega) (by omega) (by omega) (by omega) (by omega)]
  have h563 : u2.1 563 = v.1 563 := by rw [r1 563 (by omega) (by omega) (by omega) (by omega) (by omega) (by omega) (by omega), hkv 563 (by omega) (by omega) (by omega) (by omega) (by omega) (by omega)]
  have c559 : (vRow (vRow u2 563 (his (u2.1 563) (u2.1 561) d)) 559 (upd (u2.1 559) 7 (nI (if d = 8 then 8 else d + 1)))).1 559 = upd (u2.1 559) 7 (nI (if d = 8 then 8 else d + 1)) := vRow_eq _ _ _
  have c563 : (vRow (vRow u2 563 (his (u2.1 563) (u2.1 561) d)) 559 (upd (u2.1 559) 7 (nI (if d = 8 then 8 else d + 1)))).1 563 = his (u2.1 563) (u2.1 561) d := by rw [vRow_ne _ _ (show ¬ 563 = 559 by omega), vRow_eq]
  have cne : ∀ j, ¬ j = 559 → ¬ j = 563 → (vRow (vRow u2 563 (his (u2.1 563) (u2.1 561) d)) 559 (upd (u2.1 559) 7 (nI (if d = 8 then 8 else d + 1)))).1 j = u2.1 j := fun j a b => by rw [vRow_ne _ _ a, vRow_ne _ _ b]
  refine ⟨(r2 7 (by omega) (by omega)).trans h7, by rw [c559, upd_ne (by omega)]; exact r6, ?_⟩
  generalize vRow (vRow u2 563 (his (u2.1 563) (u2.1 561) d)) 559 (upd (u2.1 559) 7 (nI (if d = 8 then 8 else d + 1))) = uc at c559 c563 cne ⊢
  have a1 : ∀ j, ¬ j = 559 → ¬ j = 560 → ¬ j = 561 → ¬ j = 563 → ¬ j = 564 → ¬ j = 565 → ¬ j = 568 → ¬ j = 569 → uc.1 j = vk.1 j := fun j a b c d e f g h => by rw [cne j a d, r1 j a b c e f g h]
  have a2 : ∀ j, j = 0 ∨ 51 ≤ j → ¬ j = 101 → ¬ j = 553 → ¬ j = 554 → ¬ j = 556 → (j < 103 + 50 * ((o + d) % 9) ∨ 103 + 50 * ((o + d) % 9) + 50 ≤ j) → (j < 559 ∨ j = 562 ∨ j = 566) → uc.1 j = v.1 j := fun j a b c d e f g => by rw [a1 j (by omega) (by omega) (by omega) (by omega) (by omega) (by omega) (by omega) (by omega), hkv j a b c d e f]
  have a3 : ∀ k, ¬ k = 6 → ¬ k = 7 → k < 16 → uc.1 559 k = v.1 559 k := fun k a b c => by rw [c559, upd_ne b, r2 k a c]
  generalize he : (o + d) % 9 = e at *
  refine J_scr (B := B) (v := v) (by omega) hJ ?_ ?_ (fun j a b => a2 j (by omega) (by omega) (by omega) (by omega) (by omega) (by omega) (by omega)) (by rw [a2 0 (by omega) (by omega) (by omega) (by omega) (by omega) (by omega) (by omega)]) (a2 557 (by omega) (by omega) (by omega) (by omega) (by omega) (by omega) (by omega)) (a2 558 (by omega) (by omega) (by omega) (by omega) (by omega) (by omega) (by omega)) ?_ ?_ (a3 10 (by omega) (by omega) (by omega)) (a3 12 (by omega) (by omega) (by omega)) (a2 562 (by omega) (by omega) (by omega) (by omega) (by omega) (by omega) (by omega)) (a2 566 (by omega) (by omega) (by omega) (by omega) (by omega) (by omega) (by omega)) ⟨?_, ?_⟩
  · rw [cne 560 (by omega) (by omega)]
    exact (hb.mono hB2).same fun j a b => by rw [a1 j (by omega) (by omega) (by omega) (by omega) (by omega) (by omega) (by omega) (by omega), w2 j (by omega) (by omega)]
  · refine (JH_push (B := B) (P := u2.1 561) ho hd h1 h2 hh hJ.1 ?_ ?_ ?_ hP ?_ ?_).mono (by omega)
    · rw [a1 101 (by omega) (by omega) (by omega) (by omega) (by omega) (by omega) (by omega) (by omega), k101]
    · rw [c559, upd_eq]
    · rw [c563, h563]
    · rw [he]
      exact fun j a b c => a2 j (by omega) (by omega) (by omega) (by omega) (by omega) c (by omega)
    · rw [he]
      intro q k hr
      have hq : q < 50 := by unfold rel at hr; omega
      rw [a1 _ (by omega) (by omega) (by omega) (by omega) (by omega) (by omega) (by omega) (by omega), w2 _ (by omega) (by omega), w1 _ (by omega) (by omega) (by omega)]
      exact psp q k hr
  · rw [a1 554 (by omega) (by omega) (by omega) (by omega) (by omega) (by omega) (by omega) (by omega)]
    exact w3
  · rw [c559, upd_ne (by omega)]
    exact r16
  · rw [a2 0 (by omega) (by omega) (by omega) (by omega) (by omega) (by omega) (by omega), a3 8 (by omega) (by omega) (by omega)]
    exact hJ.2.2.2.2.2.1
  · rw [a2 0 (by omega) (by omega) (by omega) (by omega) (by omega) (by omega) (by omega), a3 9 (by omega) (by omega) (by omega)]
    exact hJ.2.2.2.2.2.2
theorem fin3 {B o d i : Nat} {v vp wf vb u u1 u' u2 : gV} (hJ : J B v) (h1 : v.1 101 1 = nI o) (h2 : v.1 101 2 = nI d) (ho : o < 9) (hd : d ≤ 8) (pne : ∀ j, j < 103 + 50 * ((o + d) % 9) ∨ 103 + 50 * ((o + d) % 9) + 50 ≤ j → vp.1 j = v.1 j) (psp : ∀ q k, rel q k → vp.1 (103 + 50 * ((o + d) % 9) + q) k = v.1 (1 + q) k) (hE : Ek (vM vp 553 3 (nI 0)) wf) (bne : ∀ j, j < 1 ∨ 51 ≤ j → vb.1 j = (vM wf 554 3 (nI 0)).1 j) (bsp : ∀ q k, rel q k → vb.1 (1 + q) k = (vM wf 554 3 (nI 0)).1 (103 + 50 * ((o + d) % 9) + q) k) (hu : u.1 = (vM vb 0 7 (nI i)).1) (p : Pr u u1) (hm : Mk u1 u') (hD : Dk u' u2) : (vM (vM (vRow u2 560 (cp3 (u2.1 561) (u2.1 560) 0 0)) 559 9 (nI i)) 559 6 (nI 2)).1 559 6 = nI 2 ∧ J (B + 64) (vM (vM (vRow u2 560 (cp3 (u2.1 561) (u2.1 560) 0 0)) 559 9 (nI i)) 559 6 (nI 2)) := by
  obtain ⟨p1, p2, p3, p4, p5, p6⟩ := p
  obtain ⟨m1, m2, m3⟩ := hm
  have hlt : (o + d) % 9 < 9 := Nat.mod_lt _ (by decide)
  have w1 : ∀ j, j = 0 ∨ 51 ≤ j → ¬ j = 553 → ¬ j = 556 → wf.1 j = vp.1 j := fun j a b c => by rw [hE.2 j a b c, vM_o _ _ _ _ b]
  have w2 : ∀ j, 51 ≤ j → ¬ j = 554 → u.1 j = wf.1 j := fun j a b => by rw [hu, vM_o _ _ _ _ (by omega), bne j (by omega), vM_o _ _ _ _ b]
  have w3 : u.1 554 3 = nI 0 := by rw [hu, vM_o _ _ _ _ (by omega), bne 554 (by omega), vM_rw, vRow_eq, upd_eq]
  have w0 : u.1 0 = upd (v.1 0) 7 (nI i) := by rw [hu, vM_rw, vRow_eq, bne 0 (by omega), vM_o _ _ _ _ (by omega), w1 0 (by omega) (by omega) (by omega), pne 0 (by omega)]
  have w5 : ∀ q k, rel q k → u.1 (1 + q) k = v.1 (1 + q) k := fun q k hr => by
    have hq : q < 50 := by unfold rel at hr; omega
    rw [hu, vM_o _ _ _ _ (by omega), bsp q k hr, vM_o _ _ _ _ (by omega), w1 _ (by omega) (by omega) (by omega), psp q k hr]
  have hkv : ∀ j, 51 ≤ j → ¬ j = 553 → ¬ j = 554 → ¬ j = 556 → (j < 103 + 50 * ((o + d) % 9) ∨ 103 + 50 * ((o + d) % 9) + 50 ≤ j) → u.1 j = v.1 j := fun j a c d e f => by rw [w2 j a d, w1 j (Or.inr a) c e, pne j f]
  refine ⟨by rw [vM_559, upd_eq], ?_⟩
  have c1 : ∀ j, ¬ j = 559 → ¬ j = 560 → (vM (vM (vRow u2 560 (cp3 (u2.1 561) (u2.1 560) 0 0)) 559 9 (nI i)) 559 6 (nI 2)).1 j = u2.1 j := fun j a b => by rw [vM_o _ _ _ _ a, vM_o _ _ _ _ a, vRow_ne _ _ b]
  have c2 : ∀ k, ¬ k = 6 → ¬ k = 9 → (vM (vM (vRow u2 560 (cp3 (u2.1 561) (u2.1 560) 0 0)) 559 9 (nI i)) 559 6 (nI 2)).1 559 k = u2.1 559 k := fun k a b => by rw [vM_559, vM_559, upd_ne a, upd_ne b, vRow_ne _ _ (by omega)]
  have c3 : (vM (vM (vRow u2 560 (cp3 (u2.1 561) (u2.1 560) 0 0)) 559 9 (nI i)) 559 6 (nI 2)).1 559 9 = nI i := by rw [vM_559, vM_559, upd_ne (by omega), upd_eq]
  have c4 : ∀ k, k < 300 → (vM (vM (vRow u2 560 (cp3 (u2.1 561) (u2.1 560) 0 0)) 559 9 (nI i)) 559 6 (nI 2)).1 560 k = u2.1 561 k := fun k hk => by
    rw [vM_o _ _ _ _ (by omega), vM_o _ _ _ _ (by omega), vRow_eq]
    have h := cp3_in (f := u2.1 561) (g := u2.1 560) (a := 0) (c := 0) hk
    rw [Nat.zero_add] at h
    exact h
  generalize vM (vM (vRow u2 560 (cp3 (u2.1 561) (u2.1 560) 0 0)) 559 9 (nI i)) 559 6 (nI 2) = uf at c1 c2 c3 c4 ⊢
  have a1 : ∀ j, ¬ j = 559 → ¬ j = 560 → ¬ j = 561 → ¬ j = 564 → ¬ j = 565 → ¬ j = 568 → ¬ j = 569 → uf.1 j = u.1 j := fun j a b c d e f g => by rw [c1 j a b, hD.2 j b d e, m2 j a f g, p2 j a c]
  have a2 : ∀ j, 51 ≤ j → ¬ j = 553 → ¬ j = 554 → ¬ j = 556 → (j < 103 + 50 * ((o + d) % 9) ∨ 103 + 50 * ((o + d) % 9) + 50 ≤ j) → (j < 559 ∨ j = 562 ∨ j = 563 ∨ j = 566) → uf.1 j = v.1 j := fun j a c d e f g => by rw [a1 j (by omega) (by omega) (by omega) (by omega) (by omega) (by omega) (by omega), hkv j a c d e f]
  have a3 : ∀ k, ¬ k = 6 → ¬ k = 9 → k < 16 → uf.1 559 k = v.1 559 k := fun k a b c => by
    rw [c2 k a b, hD.2 559 (by omega) (by omega) (by omega), m3 k (by omega) (by omega) (by omega), p3 k a (Or.inl c), hkv 559 (by omega) (by omega) (by omega) (by omega) (by omega)]
  have hP : ∀ k, k < 300 → uf.1 560 k = v.1 560 k := fun k hk => by
    rw [c4 k hk, hD.2 561 (by omega) (by omega) (by omega), m2 561 (by omega) (by omega) (by omega), p6 k hk, hkv 560 (by omega) (by omega) (by omega) (by omega) (by omega)]
  have a0 : uf.1 0 = upd (v.1 0) 7 (nI i) := (a1 0 (by omega) (by omega) (by omega) (by omega) (by omega) (by omega) (by omega)).trans w0
  generalize he : (o + d) % 9 = e at *
  refine J_scr (B := B) (v := v) (by omega) hJ ?_ ?_ (fun j a b => a2 j (by omega) (by omega) (by omega) (by omega) (by omega) (by omega)) (by rw [a0, upd_ne (by omega)]) (a2 557 (by omega) (by omega) (by omega) (by omega) (by omega) (by omega)) (a2 558 (by omega) (by omega) (by omega) (by omega) (by omega) (by omega)) ?_ ?_ (a3 10 (by omega) (by omega) (by omega)) (a3 12 (by omega) (by omega) (by omega)) (a2 562 (by omega) (by omega) (by omega) (by omega) (by omega) (by omega)) (a2 566 (by omega) (by omega) (by omega) (by omega) (by omega) (by omega)) ⟨?_, ?_⟩
  · refine BRx.w (w := v.1 560) hP ((hJ.1.mono (by omega)).copy fun q k hr => ?_)
    have hq : q < 50 := by unfold rel at hr; omega
    rw [a1 _ (by omega) (by omega) (by omega) (by omega) (by omega) (by omega) (by omega)]
    exact w5 q k hr
  · refine (JH_same hJ.2.1 (a2 101 (by omega) (by omega) (by omega) (by omega) (by omega) (by omega)) (a3 7 (by omega) (by omega) (by omega)) (a2 563 (by omega) (by omega) (by omega) (by omega) (by omega) (by omega)) fun o' d' b1 b2 b3 b4 j b5 b6 b7 => ?_).mono (by omega)
    have ho' : o' = o := by
      rw [h1, eq_n (by omega) (by omega)] at b3
      exact b3.symm
    have hd' : d' = d := by
      rw [h2, eq_n (by omega) (by omega)] at b4
      exact b4.symm
    subst ho'
    subst hd'
    exact a2 j (by omega) (by omega) (by omega) (by omega) (by omega) (by omega)
  · rw [a1 554 (by omega) (by omega) (by omega) (by omega) (by omega) (by omega) (by omega)]
    exact w3
  · rw [c2 16 (by omega) (by omega), hD.2 559 (by omega) (by omega) (by omega), m3 16 (by omega) (by omega) (by omega)]
    exact p5
  · rw [a0, upd_ne (by omega), a3 8 (by omega) (by omega) (by omega)]
    exact hJ.2.2.2.2.2.1
  · rw [a0, upd_eq, c3]
