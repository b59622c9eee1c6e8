/-! the commands done one after the other, on both sides -/
def Ek (v w : gV) : Prop := w.2 = v.2 ∧ ∀ j, j = 0 ∨ 51 ≤ j → ¬ j = 553 → ¬ j = 556 → w.1 j = v.1 j
theorem Ek.refl (v : gV) : Ek v v := ⟨rfl, fun _ _ _ _ => rfl⟩
theorem Ek.trans {v u t : gV} (h : Ek v u) (g : Ek u t) : Ek v t := ⟨g.1.trans h.1, fun j a b c => (g.2 j a b c).trans (h.2 j a b c)⟩
theorem Ek.ck {v w : gV} (h : Ck v w) : Ek v w := ⟨h.1, fun j _ b c => h.2 j b c⟩
theorem Ek.fr {v w : gV} (h : Fr v w) : Ek v w := ⟨h.1, fun j a _ _ => h.2 j a⟩
theorem TX.ek {T : Nat → Int32} {n : Nat} {v w : gV} (h : Ek v w) (hv : TX T n v) : TX T n w := by
  unfold TX at hv ⊢
  rw [h.2 554 (by omega) (by omega) (by omega), h.2 555 (by omega) (by omega) (by omega)]
  exact hv
def Dk (u w : gV) : Prop := w.2 = u.2 ∧ ∀ j, ¬ j = 560 → ¬ j = 564 → ¬ j = 565 → w.1 j = u.1 j
theorem Dk.refl (v : gV) : Dk v v := ⟨rfl, fun _ _ _ _ => rfl⟩
theorem Dk.trans {v u t : gV} (h : Dk v u) (g : Dk u t) : Dk v t := ⟨g.1.trans h.1, fun j a b c => (g.2 j a b c).trans (h.2 j a b c)⟩
theorem P_145 (x : Int32) (v : gV) : p_X12_runScript_145 x v := by
  rw [p_X12_runScript_145, p_X12_runScript_150]
  exact ⟨P_X12_fail _ _, by rw [p_X12_runScript_155]; trivial⟩
theorem F_145 (x : Int32) (v : gV) : f_X12_runScript_145 x v = (nI 0, vM (vM v 559 9 x) 559 6 (nI 2)) := by
  rw [f_X12_runScript_145, f_X12_runScript_150, F_X12_fail, f_X12_runScript_155, li_2, vM_rw (vM v 559 9 x)]
def rC (tot B len : Nat) (w u : gV) (fm : Int32 × gV) (pm : Prop) (r : Int32 × gV) : Prop := Ek w r.2 ∧ ((r.1 = (-1 : Int32) ∧ ∃ u', Dk u u' ∧ BRx (B + len) r.2 1 (u'.1 560) ∧ (p_X12_commit (nI tot) u' → pm) ∧ fm = f_X12_commit (nI tot) u') ∨ ∃ i, i < tot ∧ r.1 = nI i ∧ ∃ u', Dk u u' ∧ pm ∧ fm = f_X12_runScript_145 (nI i) (vRow u' 560 (cp3 (u'.1 561) (u'.1 560) 0 0)))
theorem ff_s1 {w w1 : gV} {s : Int32} {i tot : Nat} (hi : i < tot) (ht : tot ≤ 12) (hp : p_X7_readCommand w) (hf : f_X7_readCommand w = (s, w1)) (fuel : Nat) : (p_X7_firstFailure_16 1 (fun x2 x3 v => f_X7_firstFailure_7 1 fuel x2 x3 v) (fun x2 x3 v => p_X7_firstFailure_7 1 fuel x2 x3 v) (nI tot) (nI i) s w1 → p_X7_firstFailure_7 1 (fuel + 1) (nI tot) (nI i) w) ∧ f_X7_firstFailure_7 1 (fuel + 1) (nI tot) (nI i) w = f_X7_firstFailure_16 1 (fun x2 x3 v => f_X7_firstFailure_7 1 fuel x2 x3 v) (nI tot) (nI i) s w1 := by
  have g : ¬ nI tot ≤ nI i := by
    rw [le_n (by omega) (by omega)]
    omega
  rw [p_X7_firstFailure_7, f_X7_firstFailure_7, if_neg g, hf]
  exact ⟨fun h => ⟨fun g' => absurd g' g, fun _ => ⟨hp, h⟩⟩, rfl⟩
/-- one turn of the reference's loop -/
theorem rs_s {u : gV} {i tot k : Nat} (hi : i < tot) (ht : tot ≤ 12) (h19 : u.1 559 19 = nI tot) (h568 : u.1 568 i = nI k) (fuel : Nat) {y : Int32} (hp : p_X12_why (nI k) (u.1 569 (4 * i)) (u.1 569 (4 * i + 1)) (u.1 569 (4 * i + 2)) (u.1 569 (4 * i + 3)) u) (hf : f_X12_why (nI k) (u.1 569 (4 * i)) (u.1 569 (4 * i + 1)) (u.1 569 (4 * i + 2)) (u.1 569 (4 * i + 3)) u = y) : (¬ y = nI 0 → p_X12_runScript_33 (fuel + 1) (nI i) u ∧ f_X12_runScript_33 (fuel + 1) (nI i) u = f_X12_runScript_145 (nI i) (vRow u 560 (cp3 (u.1 561) (u.1 560) 0 0))) ∧ (y = nI 0 → ∀ (r : Int32) (u' : gV), p_X12_does (nI k) (u.1 569 (4 * i)) (u.1 569 (4 * i + 1)) (u.1 569 (4 * i + 2)) (u.1 569 (4 * i + 3)) u → f_X12_does (nI k) (u.1 569 (4 * i)) (u.1 569 (4 * i + 1)) (u.1 569 (4 * i + 2)) (u.1 569 (4 * i + 3)) u = (r, u') → (p_X12_runScript_33 fuel (nI (i + 1)) u' → p_X12_runScript_33 (fuel + 1) (nI i) u) ∧ f_X12_runScript_33 (fuel + 1) (nI i) u = f_X12_runScript_33 fuel (nI (i + 1)) u') := by
  have e0 : (4 : Int32) * nI i = nI (4 * i) := by rw [li_4, nI_mul]
  have e1 : nI (4 * i) + (1 : Int32) = nI (4 * i + 1) := by rw [li_1, nI_add]
  have e2 : nI (4 * i) + (2 : Int32) = nI (4 * i + 2) := by rw [li_2, nI_add]
  have e3 : nI (4 * i) + (3 : Int32) = nI (4 * i + 3) := by rw [li_3, nI_add]
  have ei : nI i + (1 : Int32) = nI (i + 1) := by rw [li_1, nI_add]
  have g : ¬ nI tot ≤ nI i := by
    rw [le_n (by omega) (by omega)]
    omega
  have v0 : vp_in (nI i) 32 := vi_n (by omega) (by omega)
  have w0 : vp_in (nI (4 * i)) 128 := vi_n (by omega) (by omega)
  have w1 : vp_in (nI (4 * i + 1)) 128 := vi_n (by omega) (by omega)
  have w2 : vp_in (nI (4 * i + 2)) 128 := vi_n (by omega) (by omega)
  have w3 : vp_in (nI (4 * i + 3)) 128 := vi_n (by omega) (by omega)
  have hF : f_X12_copy 561 300 560 300 (0 : Int32) (0 : Int32) u = vRow u 560 (cp3 (u.1 561) (u.1 560) 0 0) := F_copy (a := 0) (c := 0) u (by omega) (by omega) (by omega) (by omega) (by omega)
  have hP : p_X12_copy 561 300 560 300 (0 : Int32) (0 : Int32) u := P_copy (a := 0) (c := 0) u (by omega) (by omega) (by omega) (by omega) (by omega)
  rw [p_X12_runScript_33, f_X12_runScript_33, h19, e0, e1, e2, e3, cl_n (n := i) (by omega), cl_n (n := 4 * i) (by omega), cl_n (n := 4 * i + 1) (by omega), cl_n (n := 4 * i + 2) (by omega), cl_n (n := 4 * i + 3) (by omega), h568, hf, if_neg g]
  constructor
  · intro hy
    have hy : ¬ y = 0 := hy
    rw [if_neg hy, hF]
    exact ⟨⟨fun g' => absurd g' g, fun _ => ⟨v0, w0, w1, w2, w3, hp, fun g' => absurd g' hy, fun _ => ⟨hP, P_145 _ _⟩⟩⟩, rfl⟩
  · intro hy r u' hd hdf
    have hy : y = 0 := hy
    rw [if_pos hy, hdf, f_X12_runScript_128, ei]
    exact ⟨fun h => ⟨fun g' => absurd g' g, fun _ => ⟨v0, w0, w1, w2, w3, hp, fun _ => ⟨v0, w0, w1, w2, w3, hd, by rw [p_X12_runScript_128, ei]; exact h⟩, fun g' => absurd hy g'⟩⟩, rfl⟩
theorem Run (T : Nat → Int32) (n tot : Nat) (ht : tot ≤ 12) : ∀ (L : List (Nat × List Int32)) (i p B fc fm : Nat) (w u : gV), L.length + i = tot → L.length < fc → L.length < fm → B + L.length < 40000 → Ch T n L p → TX T n w → w.1 553 3 = nI p → BRx B w 1 (u.1 560) → u.1 559 19 = nI tot → ML L i u → p_X7_firstFailure_7 1 fc (nI tot) (nI i) w ∧ rC tot B L.length w u (f_X12_runScript_33 fm (nI i) u) (p_X12_runScript_33 fm (nI i) u) (f_X7_firstFailure_7 1 fc (nI tot) (nI i) w) := by
  intro L
  induction L with
  | nil =>
    intro i p B fc fm w u hi hfc hfm _ _ _ _ hb h19 _
    obtain ⟨fc, rfl⟩ := fuel_s hfc
    obtain ⟨fm, rfl⟩ := fuel_s hfm
    have hi : 0 + i = tot := hi
    have : i = tot := by omega
    subst this
    have g : nI i ≤ nI i := Int32.le_refl _
    rw [p_X7_firstFailure_7, f_X7_firstFailure_7, if_pos g, p_X12_runScript_33, f_X12_runScript_33, h19, if_pos g]
    refine ⟨⟨fun _ => trivial, fun g' => absurd g g'⟩, Ek.refl w, Or.inl ⟨rfl, u, Dk.refl u, hb, fun h => ⟨fun _ => ⟨h, ?_⟩, fun g' => absurd g g'⟩, ?_⟩⟩
    · rw [p_X12_runScript_170]
      trivial
    · rw [f_X12_runScript_170]
  | cons x L ih =>
    intro i p B fc fm w u hi hfc hfm hB hch hw hw3 hb h19 hml
    obtain ⟨fc, rfl⟩ := fuel_s hfc
    obtain ⟨fm, rfl⟩ := fuel_s hfm
    obtain ⟨k, xs⟩ := x
    have hlen : ((k, xs) :: L).length = L.length + 1 := rfl
    rw [hlen] at hi hfc hfm hB
    obtain ⟨hpn, q, cr, sb, hch⟩ := hch
    have cr : CR T n p (Sum.inr (k, q, xs)) := cr
    have sb : SB n p (Sum.inr (k, q, xs)) := sb
    obtain ⟨hk, hpq, hqn, hxl, hxs⟩ := sb.2 k q xs rfl
    obtain ⟨m1, m2⟩ := hml 0 (by omega)
    have m1 : u.1 568 (i + 0) = nI k := m1
    have m2 : ∀ j, j < (its k).length → u.1 569 (4 * (i + 0) + j) = xs.getD j 0 := m2
    rw [Nat.add_zero] at m1 m2
    have hl1 := (its_len k hk).2
    obtain ⟨r1, w1, r2, r3, r4, r5, r6⟩ := CR_ok cr hw hw3
    obtain ⟨s1, s2⟩ := ff_s1 (i := i) (tot := tot) (by omega) ht r1 r2 fc
    have n1 : ¬ nI 1 = 0 := n10
    have hb1 : BRx B w1 1 (u.1 560) := hb.same fun j h1 h2 => r3.2 j (by omega) (by omega)
    obtain ⟨d1, y, d2, d3, d4⟩ := K_done (B := B) (by omega) hk (u.1 569 (4 * i)) (u.1 569 (4 * i + 1)) (u.1 569 (4 * i + 2)) (u.1 569 (4 * i + 3)) hb1 r5 ((r6 0 (by omega)).trans (m2 0 (by omega)).symm) (fun h => (r6 1 h).trans (m2 1 h).symm) (fun h => (r6 2 h).trans (m2 2 h).symm) (fun h => (r6 3 h).trans (m2 3 h).symm) (fun h4 => by
      subst h4
      rw [m2 1 (by decide)]
      exact (hxs 1 (by decide)).2 rfl) (fun h3 => by
      subst h3
      obtain ⟨m, hm, e⟩ := (hxs 0 (by decide)).1
      exact ⟨m, hm, (m2 0 (by decide)).trans e⟩)
    obtain ⟨y1, y2⟩ := d2 u rfl
    obtain ⟨z1, z2⟩ := rs_s (i := i) (tot := tot) (k := k) (by omega) ht h19 m1 fm y1 y2
    rw [f_X7_firstFailure_16, if_neg n1] at s2
    rw [p_X7_firstFailure_16] at s1
    by_cases hy : y = nI 0
    · obtain ⟨v', e1, e2, e3⟩ := d4 hy
      obtain ⟨g1, r, u', g2, g3, g4, g5⟩ := e3 u rfl
      obtain ⟨x1, x2⟩ := z2 hy r u' g1 g2
      have h553 : v'.1 553 3 = nI q := by rw [e2.2 553 (by omega)]; exact r4
      have eq1 : nI q + (1 : Int32) = nI (q + 1) := by rw [li_1, nI_add]
      have ei : nI i + (1 : Int32) = nI (i + 1) := by rw [li_1, nI_add]
      rw [e1, f_X7_firstFailure_24, if_neg n1, h553, eq1, f_X7_firstFailure_39, ei] at s2
      rw [e1, p_X7_firstFailure_24, h553, eq1, p_X7_firstFailure_39, ei] at s1
      have hE : Ek w (vM v' 553 3 (nI (q + 1))) := (Ek.ck r3).trans ((Ek.fr e2).trans ⟨rfl, fun j _ a _ => by rw [vM_rw, vRow_ne _ _ a]⟩)
      have hD : Dk u u' := ⟨g3, g4⟩
      obtain ⟨t1, t2, t3⟩ := ih (i + 1) (q + 1) (B + 1) fc fm (vM v' 553 3 (nI (q + 1))) u' (by omega) (by omega) (by omega) (by omega) hch (hw.ek hE) (by rw [vM_rw, vRow_eq, upd_eq]) (g5.same fun j h1 h2 => by rw [vM_rw, vRow_ne _ _ (by omega)]) (by rw [g4 559 (by omega) (by omega) (by omega)]; exact h19) (fun j hj => by
        rw [g4 568 (by omega) (by omega) (by omega), g4 569 (by omega) (by omega) (by omega), show i + 1 + j = i + (j + 1) by omega]
        exact hml (j + 1) (by omega))
      rw [s2, x2]
      refine ⟨s1 ⟨fun g => absurd g n1, fun _ => ⟨d1, fun g => absurd g n1, fun _ => t1⟩⟩, hE.trans t2, ?_⟩
      rcases t3 with ⟨t4, u2, t5, t6, t7, t8⟩ | ⟨i', t4, t5, u2, t6, t7, t8⟩
      · refine Or.inl ⟨t4, u2, hD.trans t5, ?_, fun h => x1 (t7 h), t8⟩
        rw [hlen, show B + (L.length + 1) = B + 1 + L.length by omega]
        exact t6
      · exact Or.inr ⟨i', t4, t5, u2, hD.trans t6, x1 t7, t8⟩
    · have e1 := d3 hy
      obtain ⟨x1, x2⟩ := z1 hy
      have g0 : nI 0 = 0 := rfl
      rw [e1, f_X7_firstFailure_24, if_pos g0, f_X7_firstFailure_27] at s2
      rw [e1, p_X7_firstFailure_24] at s1
      rw [s2, x2]
      refine ⟨s1 ⟨fun g => absurd g n1, fun _ => ⟨d1, fun _ => ?_, fun g => absurd g0 g⟩⟩, Ek.ck r3, Or.inr ⟨i, by omega, rfl, u, Dk.refl u, x1, rfl⟩⟩
      rw [p_X7_firstFailure_27]
      trivial
