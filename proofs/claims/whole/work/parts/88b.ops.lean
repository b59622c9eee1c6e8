/-! the law's calls: an answer of the class beside the reference's -/
/-- scratch alone has changed -/
def Sc (v u : gV) : Prop := (∀ j, j = 0 ∨ 51 ≤ j → ¬ j = 559 → ¬ j = 561 → ¬ j = 564 → ¬ j = 565 → u.1 j = v.1 j) ∧ (∀ k, ¬ k = 6 → u.1 559 k = v.1 559 k) ∧ ∀ o k, rel o k → u.1 (1 + o) k = v.1 (1 + o) k
theorem Sc.refl (v : gV) : Sc v v := ⟨fun _ _ _ _ _ _ => rfl, fun _ _ => rfl, fun _ _ _ => rfl⟩
theorem Sc.trans {v u t : gV} (h : Sc v u) (g : Sc u t) : Sc v t := ⟨fun j h0 h1 h2 h3 h4 => (g.1 j h0 h1 h2 h3 h4).trans (h.1 j h0 h1 h2 h3 h4), fun k hk => (g.2.1 k hk).trans (h.2.1 k hk), fun o k hr => (g.2.2 o k hr).trans (h.2.2 o k hr)⟩
theorem Sc.one {v u : gV} (h : u.1 = v.1) : Sc v u := by
  refine ⟨fun j _ _ _ _ _ => ?_, fun k _ => ?_, fun o k _ => ?_⟩ <;> rw [h]
theorem J.sc {B : Nat} {v u : gV} (h : Sc v u) (hJ : J B v) : J B u := by
  obtain ⟨h1, h2, h3⟩ := h
  refine J_same (Nat.le_refl _) hJ ?_ ?_ ?_ ?_ ?_ ?_ ?_ ?_ ?_
  · rw [h1 560 (by omega) (by omega) (by omega) (by omega) (by omega)]
    exact hJ.1.copy h3
  · exact JH_same hJ.2.1 (h1 101 (by omega) (by omega) (by omega) (by omega) (by omega)) (h2 7 (by omega)) (h1 563 (by omega) (by omega) (by omega) (by omega) (by omega)) fun o d _ _ _ _ j a b _ => h1 j (by omega) (by omega) (by omega) (by omega) (by omega)
  · exact h1 0 (by omega) (by omega) (by omega) (by omega) (by omega)
  · exact fun j a b => h1 j (by omega) (by omega) (by omega) (by omega) (by omega)
  · exact fun j a b => h1 j (by omega) (by omega) (by omega) (by omega) (by omega)
  · exact fun k hk => h2 k (by omega)
  · exact h1 562 (by omega) (by omega) (by omega) (by omega) (by omega)
  · exact h1 566 (by omega) (by omega) (by omega) (by omega) (by omega)
  · exact h1 567 (by omega) (by omega) (by omega) (by omega) (by omega)
/-- what the reference's reading changes: thrown, its scratch -/
def Th (u u' : gV) (y : Int32) : Prop := u'.2 = u.2 ∧ u'.1 559 = upd (u.1 559) 6 y ∧ ∀ j, ¬ j = 559 → ¬ j = 564 → ¬ j = 565 → u'.1 j = u.1 j
theorem Th.sc {u u' : gV} {y : Int32} (h : Th u u' y) : Sc u u' := ⟨fun j _ h1 _ h3 h4 => h.2.2 j h1 h3 h4, fun k hk => by rw [h.2.1, upd_ne hk], fun o k hr => by rw [h.2.2 (1 + o) (by unfold rel at hr; omega) (by unfold rel at hr; omega) (by unfold rel at hr; omega)]⟩
def thr (u : gV) (y : Int32) : gV := vM u 559 6 y
theorem thr_Th (u : gV) (y : Int32) : Th u (thr u y) y := ⟨rfl, by unfold thr; rw [vM_rw, vRow_eq], fun j h _ _ => by unfold thr; rw [vM_rw, vRow_ne _ _ h]⟩
/-- one call: the class' answer (cf), the reference's (fM) -/
def Ans {α : Type} (cf : gV → (α ⊕ String) × gV) (cp : gV → Prop) (fM : gV → α × gV) (pM : gV → Prop) (eX : Int32 → String) (oy : Int32 → Prop) (ok : α → Prop) (B : Nat) : Prop := ∀ v : gV, J B v → cp v ∧ ((∃ y, oy y ∧ ¬ y = nI 0 ∧ (cf v).1 = Sum.inr (eX y) ∧ ∀ u : gV, u.1 = (cf v).2.1 → pM u ∧ (fM u).2.1 559 6 = y ∧ J (B + 64) (fM u).2) ∨ (∃ r, ok r ∧ (cf v).1 = Sum.inl r ∧ ∀ u : gV, u.1 = (cf v).2.1 → pM u ∧ (fM u).2.1 559 6 = nI 0 ∧ (fM u).1 = r ∧ (fM u).2.2 = u.2 ∧ J (B + 64) (fM u).2))
/-- a reading -/
def Rd {α : Type} (cf : gV → (α ⊕ String) × gV) (cp : gV → Prop) (fM : gV → α × gV) (pM : gV → Prop) (eX : Int32 → String) (oy : Int32 → Prop) (ok : α → Prop) (B : Nat) : Prop := ∀ (v : gV) (np nc nt no : Nat), BR B v 1 (v.1 560) np nc nt no → cp v ∧ Sc v (cf v).2 ∧ ∃ y, (¬ y = nI 0 → oy y ∧ (cf v).1 = Sum.inr (eX y) ∧ ∀ u : gV, u.1 560 = v.1 560 → pM u ∧ Th u (fM u).2 y) ∧ (y = nI 0 → ∃ r, ok r ∧ (cf v).1 = Sum.inl r ∧ ∀ u : gV, u.1 560 = v.1 560 → pM u ∧ (fM u).1 = r ∧ Th u (fM u).2 (nI 0))
theorem Ans_rd {α : Type} {cf : gV → (α ⊕ String) × gV} {cp : gV → Prop} {fM : gV → α × gV} {pM : gV → Prop} {eX : Int32 → String} {oy : Int32 → Prop} {ok : α → Prop} {B : Nat} (h : Rd cf cp fM pM eX oy ok B) : Ans cf cp fM pM eX oy ok B := by
  intro v hJ
  obtain ⟨np, nc, nt, no, hb⟩ := hJ.1
  obtain ⟨h1, h2, y, h3, h4⟩ := h v np nc nt no hb
  have hu : ∀ u : gV, u.1 = (cf v).2.1 → u.1 560 = v.1 560 := fun u hu => by rw [hu, h2.1 560 (by omega) (by omega) (by omega) (by omega) (by omega)]
  refine ⟨h1, ?_⟩
  by_cases hy : y = nI 0
  · obtain ⟨r, hok, hr, hm⟩ := h4 hy
    refine Or.inr ⟨r, hok, hr, fun u he => ?_⟩
    obtain ⟨m1, m2, m3⟩ := hm u (hu u he)
    refine ⟨m1, ?_, m2, m3.1, ?_⟩
    · rw [m3.2.1, upd_eq]
    · exact (((hJ.sc h2).sc (Sc.one he)).sc m3.sc).mono (by omega)
  · obtain ⟨hoy, hr, hm⟩ := h3 hy
    refine Or.inl ⟨y, hoy, hy, hr, fun u he => ?_⟩
    obtain ⟨m1, m3⟩ := hm u (hu u he)
    refine ⟨m1, ?_, ?_⟩
    · rw [m3.2.1, upd_eq]
    · exact (((hJ.sc h2).sc (Sc.one he)).sc m3.sc).mono (by omega)
/-! the law's helpers and what stands behind them -/
def H1 (a : String) : String → gV → gV → Int32 × gV := fun e u v => if e = a then ((1 : Int32), u) else ((0, v))
def H2 (a b : String) : String → gV → gV → Int32 × gV := fun e u v => if e = a then ((1 : Int32), u) else (if e = b then ((2 : Int32), u) else ((0, v)))
def H3 (a b c : String) : String → gV → gV → Int32 × gV := fun e u v => if e = a then ((1 : Int32), u) else (if e = b then ((2 : Int32), u) else (if e = c then ((3 : Int32), u) else ((0, v))))
def H4 (a b c d : String) : String → gV → gV → Int32 × gV := fun e u v => if e = a then ((1 : Int32), u) else (if e = b then ((2 : Int32), u) else (if e = c then ((3 : Int32), u) else (if e = d then ((4 : Int32), u) else ((0, v)))))
def Q1 (a e : String) : Prop := ((e = a) → True) ∧ (¬ (e = a) → False)
def Q2 (a b e : String) : Prop := ((e = a) → True) ∧ (¬ (e = a) → ((e = b) → True) ∧ (¬ (e = b) → False))
def Q3 (a b c e : String) : Prop := ((e = a) → True) ∧ (¬ (e = a) → ((e = b) → True) ∧ (¬ (e = b) → ((e = c) → True) ∧ (¬ (e = c) → False)))
def Q4 (a b c d e : String) : Prop := ((e = a) → True) ∧ (¬ (e = a) → ((e = b) → True) ∧ (¬ (e = b) → ((e = c) → True) ∧ (¬ (e = c) → ((e = d) → True) ∧ (¬ (e = d) → False))))
def HQ (H : String → gV → gV → Int32 × gV) (Q : String → Prop) (eX : Int32 → String) (oy : Int32 → Prop) : Prop := ∀ y, oy y → Q (eX y) ∧ ∀ u v : gV, H (eX y) u v = (y, u)
theorem HQ1 {a : String} {eX : Int32 → String} (h1 : eX (nI 1) = a) : HQ (H1 a) (Q1 a) eX oy1 := by
  intro y hy
  have hy : y = nI 1 := hy
  subst hy
  rw [h1]
  exact ⟨⟨fun _ => trivial, fun h => h rfl⟩, fun u v => if_pos rfl⟩
theorem HQ2 {a b : String} {eX : Int32 → String} (hba : ¬ b = a) (h1 : eX (nI 1) = a) (h2 : eX (nI 2) = b) : HQ (H2 a b) (Q2 a b) eX oy2 := by
  intro y hy
  rcases hy with rfl | rfl
  · rw [h1]
    exact ⟨⟨fun _ => trivial, fun h => absurd rfl h⟩, fun u v => if_pos rfl⟩
  · rw [h2]
    refine ⟨⟨fun _ => trivial, fun _ => ⟨fun _ => trivial, fun h => h rfl⟩⟩, fun u v => ?_⟩
    unfold H2
    rw [if_neg hba, if_pos rfl]
    rfl
theorem HQ3 {a b c : String} {eX : Int32 → String} (hba : ¬ b = a) (hca : ¬ c = a) (hcb : ¬ c = b) (h1 : eX (nI 1) = a) (h2 : eX (nI 2) = b) (h3 : eX (nI 3) = c) : HQ (H3 a b c) (Q3 a b c) eX oy3 := by
  intro y hy
  rcases hy with rfl | rfl | rfl
  · rw [h1]
    exact ⟨⟨fun _ => trivial, fun h => absurd rfl h⟩, fun u v => if_pos rfl⟩
  · rw [h2]
    refine ⟨⟨fun _ => trivial, fun _ => ⟨fun _ => trivial, fun h => absurd rfl h⟩⟩, fun u v => ?_⟩
    unfold H3
    rw [if_neg hba, if_pos rfl]
    rfl
  · rw [h3]
    refine ⟨⟨fun _ => trivial, fun _ => ⟨fun _ => trivial, fun _ => ⟨fun _ => trivial, fun h => h rfl⟩⟩⟩, fun u v => ?_⟩
    unfold H3
    rw [if_neg hca, if_neg hcb, if_pos rfl]
    rfl
theorem HQ4 {a b c d : String} {eX : Int32 → String} (hba : ¬ b = a) (hca : ¬ c = a) (hcb : ¬ c = b) (hda : ¬ d = a) (hdb : ¬ d = b) (hdc : ¬ d = c) (h1 : eX (nI 1) = a) (h2 : eX (nI 2) = b) (h3 : eX (nI 3) = c) (h4 : eX (nI 4) = d) : HQ (H4 a b c d) (Q4 a b c d) eX oy4 := by
  intro y hy
  rcases hy with rfl | rfl | rfl | rfl
  · rw [h1]
    exact ⟨⟨fun _ => trivial, fun h => absurd rfl h⟩, fun u v => if_pos rfl⟩
  · rw [h2]
    refine ⟨⟨fun _ => trivial, fun _ => ⟨fun _ => trivial, fun h => absurd rfl h⟩⟩, fun u v => ?_⟩
    unfold H4
    rw [if_neg hba, if_pos rfl]
    rfl
  · rw [h3]
    refine ⟨⟨fun _ => trivial, fun _ => ⟨fun _ => trivial, fun _ => ⟨fun _ => trivial, fun h => absurd rfl h⟩⟩⟩, fun u v => ?_⟩
    unfold H4
    rw [if_neg hca, if_neg hcb, if_pos rfl]
    rfl
  · rw [h4]
    refine ⟨⟨fun _ => trivial, fun _ => ⟨fun _ => trivial, fun _ => ⟨fun _ => trivial, fun _ => ⟨fun _ => trivial, fun h => h rfl⟩⟩⟩⟩, fun u v => ?_⟩
    unfold H4
    rw [if_neg hda, if_neg hdb, if_neg hdc, if_pos rfl]
    rfl
def lF {α : Type} (sF : gV → α → Int32 × gV) (H : String → gV → gV → Int32 × gV) (cf : gV → (α ⊕ String) × gV) (v : gV) : Int32 × gV := Sum.elim (fun r => sF (cf v).2 r) (fun e => H e (cf v).2 v) (cf v).1
def lP {α : Type} (ps : gV → α → Prop) (Q : String → Prop) (cf : gV → (α ⊕ String) × gV) (cp : gV → Prop) (v : gV) : Prop := cp v ∧ ((∀ r, (cf v).1 = Sum.inl r → ps (cf v).2 r) ∧ ∀ e, (cf v).1 = Sum.inr e → Q e)
def wF {α : Type} (cF : gV → α → Int32 × gV) (K : gV → Int32 × gV) (k : Int32) (b : α) (v : gV) : Int32 × gV := if (f_X12_thrown v) = k then (if k = 0 then cF v b else K v) else (((0 : Int32), v))
def wP {α : Type} (cP : gV → α → Prop) (PK : gV → Prop) (k : Int32) (b : α) (v : gV) : Prop := (p_X12_thrown v) ∧ ((((f_X12_thrown v) = k) → (((k = 0) → cP v b) ∧ (¬ (k = 0) → PK v))) ∧ (¬ ((f_X12_thrown v) = k) → (True)))
theorem op_gen {α : Type} {cf : gV → (α ⊕ String) × gV} {cp : gV → Prop} {fM : gV → α × gV} {pM : gV → Prop} {eX : Int32 → String} {oy : Int32 → Prop} {ok : α → Prop} {B : Nat} (hA : Ans cf cp fM pM eX oy ok B) (sF : gV → α → Int32 × gV) (ps : gV → α → Prop) (H : String → gV → gV → Int32 × gV) (Q : String → Prop) (hH : HQ H Q eX oy) (hps : ∀ u r, ok r → ps u r ∧ (sF u r).1 = 0 ∧ (sF u r).2.1 = u.1) (K : gV → Int32 × gV) (PK : gV → Prop) (hK : ∀ u, J (B + 64) u → PK u ∧ (K u).1 = 1) (cF : gV → α → Int32 × gV) (cP : gV → α → Prop) (hc : ∀ u r w, ok r → w.2 = (sF u r).2.2 → cF w r = K w ∧ (PK w → cP w r)) {v : gV} (hJ : J B v) : lP ps Q cf cp v ∧ pM (lF sF H cf v).2 ∧ wP cP PK (lF sF H cf v).1 (fM (lF sF H cf v).2).1 (fM (lF sF H cf v).2).2 ∧ (wF cF K (lF sF H cf v).1 (fM (lF sF H cf v).2).1 (fM (lF sF H cf v).2).2).1 = 1 := by
  obtain ⟨h1, h2⟩ := hA v hJ
  rcases h2 with ⟨y, hoy, hy0, hr, hm⟩ | ⟨r, hok, hr, hm⟩
  · obtain ⟨q1, q2⟩ := hH y hoy
    have e : lF sF H cf v = (y, (cf v).2) := by
      unfold lF
      rw [hr]
      exact q2 _ _
    have hlp : lP ps Q cf cp v := ⟨h1, fun r h => (by rw [hr] at h; cases h), fun e h => (by rw [hr] at h; cases h; exact q1)⟩
    rw [e]
    obtain ⟨m1, m2, m3⟩ := hm (cf v).2 rfl
    have ht : f_X12_thrown (fM (cf v).2).2 = y := m2
    have hy : ¬ y = 0 := hy0
    obtain ⟨k1, k2⟩ := hK _ m3
    refine ⟨hlp, m1, ⟨trivial, fun _ => ⟨fun h => absurd h hy, fun _ => k1⟩, fun _ => trivial⟩, ?_⟩
    unfold wF
    rw [if_pos ht, if_neg hy]
    exact k2
  · obtain ⟨s1, s2, s3⟩ := hps (cf v).2 r hok
    have e : lF sF H cf v = sF (cf v).2 r := by
      unfold lF
      rw [hr]
      rfl
    have hlp : lP ps Q cf cp v := ⟨h1, fun r' h => (by rw [hr] at h; cases h; exact s1), fun e h => (by rw [hr] at h; cases h)⟩
    rw [e, s2]
    obtain ⟨m1, m2, m3, m4, m5⟩ := hm (sF (cf v).2 r).2 s3
    have ht : f_X12_thrown (fM (sF (cf v).2 r).2).2 = 0 := m2
    obtain ⟨k1, k2⟩ := hK _ m5
    rw [m3]
    obtain ⟨c1, c2⟩ := hc (cf v).2 r (fM (sF (cf v).2 r).2).2 hok m4
    refine ⟨hlp, m1, ⟨trivial, fun _ => ⟨fun _ => c2 k1, fun h => absurd rfl h⟩, fun _ => trivial⟩, ?_⟩
    unfold wF
    rw [if_pos ht, if_pos rfl, c1]
    exact k2
def any (α : Type) (_ : α) : Prop := True
/-- the usual one: an int, kept as a long -/
def sFi (u : gV) (r : Int32) : Int32 × gV := ((0 : Int32), vL u 570 (0 : Int32).toNatClampNeg r.toInt64)
def psi (_ : gV) (_ : Int32) : Prop := (vp_in (0 : Int32) 1) ∧ True
def cFi (K : gV → Int32 × gV) (v : gV) (b : Int32) : Int32 × gV := if (lg_cmp (v.2.1 570 (0 : Int32).toNatClampNeg) b.toInt64) = 0 then K v else (((0 : Int32), v))
def cPi (PK : gV → Prop) (v : gV) (b : Int32) : Prop := (((lg_cmp (v.2.1 570 (0 : Int32).toNatClampNeg) b.toInt64) = 0) → PK v) ∧ (¬ ((lg_cmp (v.2.1 570 (0 : Int32).toNatClampNeg) b.toInt64) = 0) → (True))
theorem vL_at (u : gV) (j k : Nat) (x : Int64) : (vL u j k x).2.1 j k = x := by
  rw [vL_two, if_pos rfl]
  exact if_pos rfl
theorem in01 : vp_in (0 : Int32) 1 := vi_n (n := 0) (by omega) (by omega)
theorem op_int {cf : gV → (Int32 ⊕ String) × gV} {cp : gV → Prop} {fM : gV → Int32 × gV} {pM : gV → Prop} {eX : Int32 → String} {oy : Int32 → Prop} {B : Nat} (hA : Ans cf cp fM pM eX oy (any Int32) B) (H : String → gV → gV → Int32 × gV) (Q : String → Prop) (hH : HQ H Q eX oy) (K : gV → Int32 × gV) (PK : gV → Prop) (hK : ∀ u, J (B + 64) u → PK u ∧ (K u).1 = 1) {v : gV} (hJ : J B v) {fL : gV → Int32 × gV} {pL : gV → Prop} (hfL : fL = lF sFi H cf) (hpL : pL = lP psi Q cf cp) : pL v ∧ pM (fL v).2 ∧ wP (cPi PK) PK (fL v).1 (fM (fL v).2).1 (fM (fL v).2).2 ∧ (wF (cFi K) K (fL v).1 (fM (fL v).2).1 (fM (fL v).2).2).1 = 1 := by
  subst hfL
  subst hpL
  refine op_gen hA sFi psi H Q hH (fun u r _ => ⟨⟨in01, trivial⟩, rfl, rfl⟩) K PK hK (cFi K) (cPi PK) (fun u r w _ hw => ?_) hJ
  have e : lg_cmp (w.2.1 570 (0 : Int32).toNatClampNeg) r.toInt64 = 0 := by
    rw [hw]
    exact (lg_cmp_eq _ _).mpr (vL_at u 570 _ _)
  exact ⟨if_pos e, fun h => ⟨fun _ => h, fun _ => trivial⟩⟩
/-! the changes -/
def mcF (C : gV → (Int32 ⊕ String) × gV) (v : gV) : (Int32 ⊕ String) × gV := Sum.elim (fun r => (Sum.inl (f_X11_changed r (C (f_X3_prepare 1 v)).2).1, (f_X11_changed r (C (f_X3_prepare 1 v)).2).2)) (fun e => (Sum.inr e, (C (f_X3_prepare 1 v)).2)) (C (f_X3_prepare 1 v)).1
def mcP (C : gV → (Int32 ⊕ String) × gV) (pC : gV → Prop) (v : gV) : Prop := p_X3_prepare 1 v ∧ (pC (f_X3_prepare 1 v) ∧ ∀ r, (C (f_X3_prepare 1 v)).1 = Sum.inl r → p_X11_changed r (C (f_X3_prepare 1 v)).2 ∧ True)
def mF (Y : gV → Int32) (X : gV → Int32 × gV) (u : gV) : Int32 × gV := if Y (f_X12_begin u) ≤ 0 then ((f_X12_commit (X (f_X12_begin u)).1 (X (f_X12_begin u)).2).1, (f_X12_commit (X (f_X12_begin u)).1 (X (f_X12_begin u)).2).2) else ((f_X12_fail (Y (f_X12_begin u)) (f_X12_begin u)).1, (f_X12_fail (Y (f_X12_begin u)) (f_X12_begin u)).2)
def mP (Y : gV → Int32) (pY : gV → Prop) (X : gV → Int32 × gV) (pX : gV → Prop) (u : gV) : Prop := p_X12_begin u ∧ (pY (f_X12_begin u) ∧ (((Y (f_X12_begin u)) ≤ 0 → pX (f_X12_begin u) ∧ (p_X12_commit (X (f_X12_begin u)).1 (X (f_X12_begin u)).2 ∧ True)) ∧ (¬ (Y (f_X12_begin u)) ≤ 0 → p_X12_fail (Y (f_X12_begin u)) (f_X12_begin u) ∧ True)))
theorem P_X12_fail (y : Int32) (u : gV) : p_X12_fail y u := by
  simp only [p_X12_fail_5, p_X12_fail_0, p_X12_fail]
theorem Ans_mut {C : gV → (Int32 ⊕ String) × gV} {pC : gV → Prop} {Y : gV → Int32} {pY : gV → Prop} {X : gV → Int32 × gV} {pX : gV → Prop} {eY : Int32 → String} {oy : Int32 → Prop} {B : Nat} (hC : Cmd C pC Y pY X pX eY oy B) (hoy : ∀ y, oy y → ¬ y ≤ 0) : Ans (mcF C) (mcP C pC) (mF Y X) (mP Y pY X pX) eY oy (any Int32) B := by
  intro v hJ
  obtain ⟨pp, cp, h⟩ := mut_c hC hJ
  rcases h with ⟨y, hy, hy0, hf, hu⟩ | ⟨r, v', vk, hf, cp2, cf2, hu⟩
  · have e : mcF C v = (Sum.inr (eY y), f_X3_prepare 1 v) := by
      unfold mcF
      rw [hf]
      rfl
    rw [e]
    refine ⟨⟨pp, cp, fun r hr => ?_⟩, Or.inl ⟨y, hy, hy0, rfl, fun u h => ?_⟩⟩
    · rw [hf] at hr
      cases hr
    · obtain ⟨b1, b2, b3, uf, b4, b5, b6, b7⟩ := hu u h
      have hle : ¬ Y (f_X12_begin u) ≤ 0 := by
        rw [b3]
        exact hoy y hy
      have e : mF Y X u = (nI 0, uf) := by
        unfold mF
        rw [if_neg hle, b3, b4]
      rw [e]
      exact ⟨⟨b1, b2, fun h => absurd h hle, fun _ => ⟨P_X12_fail _ _, trivial⟩⟩, b5, b7.mono (by omega)⟩
  · have e : mcF C v = (Sum.inl r, vk) := by
      unfold mcF
      rw [hf, Sum.elim_inl, cf2]
    rw [e]
    refine ⟨⟨pp, cp, fun r' hr => ?_⟩, Or.inr ⟨r, trivial, rfl, fun u h => ?_⟩⟩
    · rw [hf] at hr ⊢
      cases hr
      exact ⟨cp2, trivial⟩
    · obtain ⟨b1, b2, b3, b4, ux, uc, b5, b6, b7, b8, b9, b10⟩ := hu u h
      have hle : Y (f_X12_begin u) ≤ 0 := by
        rw [b3]
        exact Int32.le_refl _
      have e : mF Y X u = (r, uc) := by
        unfold mF
        rw [if_pos hle, b5, b7]
      rw [e]
      refine ⟨⟨b1, b2, fun _ => ⟨b4, ?_, trivial⟩, fun h => absurd hle h⟩, b8, rfl, b9, b10.mono (by omega)⟩
      rw [b5]
      exact b6
theorem oy1_p (y : Int32) (h : oy1 y) : ¬ y ≤ 0 := by
  have h : y = nI 1 := h
  subst h
  decide +kernel
theorem oy2_p (y : Int32) (h : oy2 y) : ¬ y ≤ 0 := by
  rcases h with rfl | rfl <;> decide +kernel
theorem oy3_p (y : Int32) (h : oy3 y) : ¬ y ≤ 0 := by
  rcases h with rfl | rfl | rfl <;> decide +kernel
theorem oy4_p (y : Int32) (h : oy4 y) : ¬ y ≤ 0 := by
  rcases h with rfl | rfl | rfl | rfl <;> decide +kernel
theorem A_insure (a b c : Int32) {B : Nat} (hB : B < 40000) : Ans (f_X11_insure a b c) (p_X11_insure a b c) (f_X12_insure a b c) (p_X12_insure a b c) eIns oy2 (any Int32) B := by
  have h := Ans_mut (Cmd_ins a b c hB) oy2_p
  exact h
theorem A_endPolicy (a : Int32) {B : Nat} : Ans (f_X11_endPolicy a) (p_X11_endPolicy a) (f_X12_endPolicy a) (p_X12_endPolicy a) eEnd oy2 (any Int32) B := by
  have h := Ans_mut (Cmd_end a (B := B)) oy2_p
  exact h
theorem A_addTreaty (a b c d : Int32) {B : Nat} : Ans (f_X11_addTreaty a b c d) (p_X11_addTreaty a b c d) (f_X12_addTreaty a b c d) (p_X12_addTreaty a b c d) eTre oy2 (any Int32) B := by
  have h := Ans_mut (Cmd_tre a b c d (B := B)) oy2_p
  exact h
theorem A_dropTreaty (a : Int32) {B : Nat} : Ans (f_X11_dropTreaty a) (p_X11_dropTreaty a) (f_X12_dropTreaty a) (p_X12_dropTreaty a) eVoi oy2 (any Int32) B := by
  have h := Ans_mut (Cmd_voi a (B := B)) oy2_p
  exact h
theorem nar65536 (x : Int32) : vp_nar .char ((x.toUInt32 % 65536).toInt32) = (x.toUInt32 % 65536).toInt32 := pk_vc x
theorem A_claim (a x c : Int32) {B : Nat} (hB : B < 40000) : Ans (f_X11_claim a ((x.toUInt32 % 65536).toInt32) c) (p_X11_claim a ((x.toUInt32 % 65536).toInt32) c) (f_X12_claim_ a ((x.toUInt32 % 65536).toInt32) c) (p_X12_claim_ a ((x.toUInt32 % 65536).toInt32) c) eClm oy4 (any Int32) B := by
  have h := Ans_mut (Cmd_clm a _ c hB (nar65536 x)) oy4_p
  exact h
theorem A_pay (a b : Int32) {B : Nat} (hB : B < 40000) : Ans (f_X11_pay a b) (p_X11_pay a b) (f_X12_pay a b) (p_X12_pay a b) ePay oy3 (any Int32) B := by
  have h := Ans_mut (Cmd_pay a b hB) oy3_p
  exact h
theorem A_withdrawClaim (a : Int32) {B : Nat} (hB : B < 40000) : Ans (f_X11_withdrawClaim a) (p_X11_withdrawClaim a) (f_X12_withdrawClaim a) (p_X12_withdrawClaim a) eClo oy2 (any Int32) B := by
  have h := Ans_mut (Cmd_wai a hB) oy2_p
  exact h
theorem A_addOffer (a b c : Int32) {B : Nat} : Ans (f_X11_addOffer a b c) (p_X11_addOffer a b c) (f_X12_addOffer a b c) (p_X12_addOffer a b c) eTre oy2 (any Int32) B := by
  have h := Ans_mut (Cmd_off a b c (B := B)) oy2_p
  exact h
theorem Ans.to {α : Type} {cf cf' : gV → (α ⊕ String) × gV} {cp cp' : gV → Prop} {fM fM' : gV → α × gV} {pM pM' : gV → Prop} {eX : Int32 → String} {oy : Int32 → Prop} {ok : α → Prop} {B : Nat} (h : Ans cf cp fM pM eX oy ok B) (h1 : cf' = cf) (h2 : ∀ v, cp v → cp' v) (h3 : ∀ u, fM' u = fM u) (h4 : ∀ u, pM u → pM' u) : Ans cf' cp' fM' pM' eX oy ok B := by
  subst h1
  intro v hJ
  obtain ⟨a, b⟩ := h v hJ
  refine ⟨h2 v a, b.imp (fun ⟨y, q1, q2, q3, q4⟩ => ⟨y, q1, q2, q3, fun u hu => ?_⟩) fun ⟨r, q1, q2, q3⟩ => ⟨r, q1, q2, fun u hu => ?_⟩⟩
  · rw [h3 u]
    exact ⟨h4 u (q4 u hu).1, (q4 u hu).2⟩
  · rw [h3 u]
    exact ⟨h4 u (q3 u hu).1, (q3 u hu).2⟩
theorem A_closeClaim (a : Int32) {B : Nat} : Ans (f_X11_closeClaim a) (p_X11_closeClaim a) (f_X12_closeClaim a) (p_X12_closeClaim a) eClo oy2 (any Int32) B := by
  refine (Ans_mut (Cmd_clo a) oy2_p).to rfl (fun v h => h) (fun u => rfl) fun u h => ?_
  obtain ⟨h1, h2, h3, h4⟩ := h
  exact And.intro h1 (And.intro h2 (And.intro (fun hy => And.intro (h3 hy).1.1 (And.intro (h3 hy).1.2 (h3 hy).2)) h4))
theorem in_le (c : Int32) : (¬ c = nI 0) → (if c = nI 0 then nI 1 else nI 0) ≤ (0 : Int32) := fun h => by
  rw [if_neg h]
  exact Int32.le_refl _
theorem in_le1 (c : Int32) (h : c = nI 0) : ¬ (if c = nI 0 then nI 1 else nI 0) ≤ (0 : Int32) := by
  rw [if_pos h]
  decide +kernel
theorem dro_4 (a : Int32) (ub : gV) : f_X12_dropOffer_4 a ub = if f_X12_in a (nI 0) (ub.1 560 3 - nI 1) ub = nI 0 then ((f_X12_fail (nI 1) ub).1, (f_X12_fail (nI 1) ub).2) else ((f_X12_commit (f_X12_removesOffer a ub).1 (f_X12_removesOffer a ub).2).1, (f_X12_commit (f_X12_removesOffer a ub).1 (f_X12_removesOffer a ub).2).2) := by
  simp (disch := omega) only [f_X12_dropOffer_37, f_X12_dropOffer_29, f_X12_dropOffer_26, f_X12_dropOffer_4, f_X12_dropOffer_0, f_X12_dropOffer, li_0, li_1, li_3, cl_n] <;> rfl
theorem pas_4 (a : Int32) (ub : gV) : f_X12_passDays_4 a ub = if f_X12_in a (nI 1) (nI 60) ub = nI 0 then ((f_X12_fail (nI 1) ub).1, (f_X12_fail (nI 1) ub).2) else ((f_X12_commit (f_X12_passes a ub).1 (f_X12_passes a ub).2).1, (f_X12_commit (f_X12_passes a ub).1 (f_X12_passes a ub).2).2) := by
  simp (disch := omega) only [f_X12_passDays_31, f_X12_passDays_23, f_X12_passDays_20, f_X12_passDays_4, f_X12_passDays_0, f_X12_passDays, li_0, li_1, li_60] <;> rfl
theorem A_dropOffer (a : Int32) {B : Nat} : Ans (f_X11_dropOffer a) (p_X11_dropOffer a) (f_X12_dropOffer a) (p_X12_dropOffer a) eDro oy1 (any Int32) B := by
  have hm := Ans_mut (Cmd_dro a (B := B)) oy1_p
  refine hm.to rfl (fun v h => h) (fun u => ?_) fun u h => ?_
  · show f_X12_dropOffer_4 a (f_X12_begin u) = _
    unfold mF
    generalize f_X12_begin u = ub
    rw [dro_4]
    dsimp only
    by_cases hc : f_X12_in a (nI 0) (ub.1 560 3 - nI 1) ub = nI 0
    · have hn := in_le1 _ hc
      rw [if_pos hc, if_neg hn, if_pos hc]
    · have hn := in_le _ hc
      rw [if_neg hc, if_pos hn]
  · obtain ⟨h1, h2, h3, h4⟩ := h
    show p_X12_begin u ∧ p_X12_dropOffer_4 a (f_X12_begin u)
    refine ⟨h1, ?_⟩
    generalize f_X12_begin u = ub at h2 h3 h4 ⊢
    rw [p_X12_dropOffer_4]
    refine ⟨P_X12_in _ _ _ _, fun hc => ⟨P_X12_fail _ _, trivial⟩, fun hc => ?_⟩
    have hc' : ¬ f_X12_in a (nI 0) (ub.1 560 3 - nI 1) ub = nI 0 := hc
    obtain ⟨q1, q2, q3⟩ := h3 (in_le _ hc')
    exact ⟨q1, q2, trivial⟩
theorem A_passDays (a : Int32) {B : Nat} (hB : B < 40000) : Ans (f_X11_passDays a) (p_X11_passDays a) (f_X12_passDays a) (p_X12_passDays a) ePas oy1 (any Int32) B := by
  have hm := Ans_mut (Cmd_pas a hB) oy1_p
  refine hm.to rfl (fun v h => h) (fun u => ?_) fun u h => ?_
  · show f_X12_passDays_4 a (f_X12_begin u) = _
    unfold mF
    generalize f_X12_begin u = ub
    rw [pas_4]
    dsimp only
    by_cases hc : f_X12_in a (nI 1) (nI 60) ub = nI 0
    · have hn := in_le1 _ hc
      rw [if_pos hc, if_neg hn, if_pos hc]
    · have hn := in_le _ hc
      rw [if_neg hc, if_pos hn]
  · obtain ⟨h1, h2, h3, h4⟩ := h
    show p_X12_begin u ∧ p_X12_passDays_4 a (f_X12_begin u)
    refine ⟨h1, ?_⟩
    generalize f_X12_begin u = ub at h2 h3 h4 ⊢
    rw [p_X12_passDays_4]
    refine ⟨P_X12_in _ _ _ _, fun hc => ⟨P_X12_fail _ _, trivial⟩, fun hc => ?_⟩
    have hc' : ¬ f_X12_in a (nI 1) (nI 60) ub = nI 0 := hc
    obtain ⟨q1, q2, q3⟩ := h3 (in_le _ hc')
    exact ⟨q1, q2, trivial⟩
