/-! the texts' methods, as the flat machine sees them -/
section TEXT
variable {E : gE} {μ : gMd} {d : Nat} {Q : gO → gS → Prop} {v : gV}
theorem CT.hid {mc ms : Nat} {As : List Value} (h : ∀ τ : gT, gTx (rS v) 554 τ.1 → gTx (rS v) 557 τ.2 → HC E μ d mc ms As (v, τ, []) (fun o ρ' => ∃ v' : gV, gTx (rS v') 554 ρ'.2.1.1 ∧ gTx (rS v') 557 ρ'.2.1.2 ∧ hws E ρ' = gws E ρ'.2.1 (rS v') ∧ Q (.inl o) (rS v'))) : CT E μ d mc ms As (rS v) Q := by
  intro l hl p e ha hc hk s m args below hf happ hP hK
  obtain ⟨e1, hKK, hB, h572, hsz, τ, h1, h2, hP', hD⟩ := hP
  have e0 : hws E (v, τ, []) = gws E τ (rS v) := List.append_nil _
  obtain ⟨n, o, g1, g2, g3, ⟨v0, ρ', rfl, ⟨v', k1, k2, k3, k4⟩, ⟨j1, j2, j3⟩, hF⟩, g5⟩ := h τ h1 h2 l p e ha hc hk s m args below hf happ ⟨e1, hKK, hB, by rw [e0]; exact hP', by rw [e0]; exact hD⟩ hK
  rw [k3] at j2 j3
  exact ⟨n, _, g1, g2, g3, Or.inl ⟨⟨v0, rS v', rfl, k4, ⟨j1, Nat.le_refl 572, fun h => absurd h (Nat.lt_irrefl 572), ρ'.2.1, k1, k2, j2, j3⟩, hF⟩, g5⟩⟩
/-- a text, in words of its place -/
theorem gTx_j {σ : gS} {τ : gT} {j : Nat} (hj : j = 554 ∨ j = 557) (h1 : gTx σ 554 τ.1) (h2 : gTx σ 557 τ.2) : gTx σ j (tj τ j) := by
  rcases hj with rfl | rfl
  · exact h1
  · exact h2
theorem gTx_ts {σ σ' : gS} {τ : gT} {w : gT1} {j : Nat} (hj : j = 554 ∨ j = 557) (h1 : gTx σ 554 τ.1) (h2 : gTx σ 557 τ.2) (h : gTx σ' j w) (ho : ∀ i, i ≠ j → i ≠ j + 1 → gM σ' i = gM σ i) : gTx σ' 554 (ts τ j w).1 ∧ gTx σ' 557 (ts τ j w).2 := by
  rcases hj with rfl | rfl
  · exact ⟨h, gTx_kept h2 (ho _ (by decide) (by decide)) (ho _ (by decide) (by decide))⟩
  · exact ⟨gTx_kept h1 (ho _ (by decide) (by decide)) (ho _ (by decide) (by decide)), h⟩
/-- letters of a text lie in the hidden part alone -/
theorem gws_ghost {τ : gT} {j : Nat} {f : Nat → Int32} (hj : j = 554 ∨ j = 557) : gws E τ (rS (vRow v (j + 1) f)) = gws E τ (rS v) := by
  have h1 := cellW (E := E) hj (τ := τ) (w := tj τ j) (v := vRow v (j + 1) f)
  have h2 := cellW (E := E) hj (τ := τ) (w := tj τ j) (v := v)
  rw [ts_tj] at h1 h2
  apply List.ext_getElem?
  intro i
  by_cases hi : i < 572
  · rw [gws_at (σ := rS v) hi, gws_at (σ := rS (vRow v (j + 1) f)) hi]
    by_cases h : i = j + 1
    · rw [h, h1, h2]
    · rw [show cellE E τ (rS (vRow v (j + 1) f)) i = cellE E τ (rS v) i from cellE_upr (σ := rS v) h]
  · rw [List.getElem?_eq_none (by rw [gws_len]; exact Nat.le_of_not_lt hi), List.getElem?_eq_none (by rw [gws_len]; exact Nat.le_of_not_lt hi)]
theorem vRow_n {j a : Nat} {f : Nat → Int32} (h : a ≠ j) : (vRow v j f).1 a = v.1 a := upr_n h
theorem vRow_s {j : Nat} {f : Nat → Int32} : (vRow v j f).1 j = f := upr_s
theorem vM_n {j a k : Nat} {x : Int32} (h : a ≠ j) : (vM v j k x).1 a = v.1 a := upr_n h
theorem vM_s {j k : Nat} {x : Int32} : (vM v j k x).1 j = upd (v.1 j) k x := upr_s
theorem vM_row {j k : Nat} {x : Int32} : vM v j k x = vRow v j (upd (v.1 j) k x) := rfl
/-- a letter behind a text; a number; none -/
def vAC (v : gV) (j : Nat) (x : Int32) : gV := vRow (vM v j 3 (v.1 j 3 + 1)) (j + 1) (upd (v.1 (j + 1)) (v.1 j 3).toNatClampNeg x)
def vAI (v : gV) (j : Nat) (x : Int32) : gV := vRow (vM v j 3 (v.1 j 3 + nI (sb_dg x.toNatClampNeg))) (j + 1) (fun i => if (v.1 j 3).toNatClampNeg ≤ i ∧ i < (v.1 j 3).toNatClampNeg + sb_dg x.toNatClampNeg then nI (sb_dec x.toNatClampNeg (i - (v.1 j 3).toNatClampNeg)) else v.1 (j + 1) i)
theorem ct_J4_length_8abf5 {j : Nat} (hj : j = 554 ∨ j = 557) (hd : 2 ≤ d) (v : gV) : CT E m_J4_length_8abf5 d 0 0 [.ref (gX E + j)] (rS v) (Cq (.inl (some (.int (v.1 j 3)))) v) :=
  CT.hid fun τ h1 h2 => HC.mono (j_length hj hd) (fun o ρ' ⟨e1, e2⟩ => ⟨v, by rw [e2]; exact h1, by rw [e2]; exact h2, by rw [e2]; exact List.append_nil _, by rw [e1]; exact ⟨rfl, rfl⟩⟩)
theorem ct_J4_charAt_5068e {j : Nat} (hj : j = 554 ∨ j = 557) (hd : 5 ≤ d) (x : Int32) (v : gV) (hp : vp_in x (v.1 j 3).toNatClampNeg) : CT E m_J4_charAt_5068e d 0 0 [.ref (gX E + j), .int x] (rS v) (Cq (.inl (some (.int (v.1 (j + 1) x.toNatClampNeg)))) v) := by
  refine CT.hid fun τ h1 h2 => ?_
  obtain ⟨g1, g2, g3, n, g4, g5, g6, g7⟩ := gTx_j hj h1 h2
  have en : (v.1 j 3).toNatClampNeg = n := by rw [show v.1 j 3 = nI n from g4]; exact nI_clamp (by omega)
  rw [en] at hp
  obtain ⟨e1, e2⟩ := vp_in_nat hp
  obtain ⟨c, k1, k2, k3⟩ := g7 _ e2
  have h := j_charAt (E := E) (d := d) (w := tj τ j) (τ := τ) hj g2 g4 g5 g6 e2 k1 k3 hd
  rw [ts_tj, ← e1] at h
  refine HC.mono h (fun o ρ' ⟨e1, e2⟩ => ⟨v, by rw [e2]; exact h1, by rw [e2]; exact h2, by rw [e2]; exact List.append_nil _, by rw [e1, show v.1 (j + 1) x.toNatClampNeg = nI c from k2]; exact ⟨rfl, rfl⟩⟩)
theorem ct_J4_setLength_d00df {j : Nat} (hj : j = 554 ∨ j = 557) (hd : 6 ≤ d) (x : Int32) (v : gV) (hp : x = 0) : CT E m_J4_setLength_d00df d 1 256 [.ref (gX E + j), .int x] (rS v) (Cq (.inl none) (vM v j 3 0)) := by
  subst hp
  refine CT.hid fun τ h1 h2 => ?_
  obtain ⟨g1, g2, g3, n, g4, g5, g6, g7⟩ := gTx_j hj h1 h2
  have h := j_setLength (E := E) (d := d) (w := tj τ j) (τ := τ) hj g2 g4 (by omega) g6 g1 hd
  rw [ts_tj] at h
  refine HC.mono h ?_
  rintro o ρ' ⟨rfl, w2, rfl, k1, k2, k3⟩
  have hT : gTx (rS (vM v j 3 0)) j w2 := by
    refine ⟨k3, ?_, ?_, 0, ?_, Nat.zero_le _, k1, fun i hi => absurd hi (Nat.not_lt_zero i)⟩
    · show (vM v j 3 0).1 j 1 = 0
      rw [vM_s, pk_un (by decide)]
      exact g2
    · rcases k2 with k2 | k2
      · rw [k2]
        exact g3
      · exact Or.inr k2
    · show (vM v j 3 0).1 j 3 = nI 0
      rw [vM_s, pk_us]
      rfl
  obtain ⟨t1, t2⟩ := gTx_ts (τ := τ) hj h1 h2 hT (fun i h0 h9 => vM_n h0)
  exact ⟨vM v j 3 0, t1, t2, List.append_nil _, rfl, rfl⟩
theorem ct_J4_append_cf468 {j : Nat} (hj : j = 554 ∨ j = 557) (hd : 6 ≤ d) (x : Int32) (v : gV) (hp : (v.1 j 3).toNatClampNeg ≤ 110 ∧ ¬ x < 0 ∧ x.toNatClampNeg < 256) : CT E m_J4_append_cf468 d 1 256 [.ref (gX E + j), .int x] (rS v) (Cq (.inl (some (.ref (gX E + j)))) (vAC v j x)) := by
  obtain ⟨p1, p2, p3⟩ := hp
  obtain ⟨c, hc, rfl⟩ := nI_of p2
  rw [nI_clamp hc] at p3
  refine CT.hid fun τ h1 h2 => ?_
  obtain ⟨g1, g2, g3, n, g4, g5, g6, g7⟩ := gTx_j hj h1 h2
  have en : (v.1 j 3).toNatClampNeg = n := by rw [show v.1 j 3 = nI n from g4]; exact nI_clamp (by omega)
  rw [en] at p1
  have h := j_appendC (E := E) (d := d) (w := tj τ j) (τ := τ) hj g2 g4 p1 g5 p3 g6 g1 hd
  rw [ts_tj] at h
  refine HC.mono h ?_
  rintro o ρ' ⟨rfl, w2, rfl, k1, k2, k3, k4, k5, k6⟩
  have e3 : v.1 j 3 + 1 = nI (n + 1) := by rw [show v.1 j 3 = nI n from g4, nI_1]
  have hT : gTx (rS (vAC v j (nI c))) j w2 := by
    refine ⟨k4, ?_, by rw [k3]; exact g3, n + 1, ?_, k1, k2, fun i hi => ?_⟩
    · show (vAC v j (nI c)).1 j 1 = 0
      unfold vAC
      rw [vRow_n (by omega), vM_s, pk_un (by decide)]
      exact g2
    · show (vAC v j (nI c)).1 j 3 = _
      unfold vAC
      rw [vRow_n (by omega), vM_s, pk_us, e3]
    · show ∃ c', c' < 256 ∧ (vAC v j (nI c)).1 (j + 1) i = nI c' ∧ _
      unfold vAC
      rw [vRow_s, en]
      by_cases hi' : i = n
      · subst hi'
        exact ⟨c, p3, pk_us, k6⟩
      · obtain ⟨c', q1, q2, q3⟩ := g7 i (by omega)
        exact ⟨c', q1, by rw [pk_un hi']; exact q2, (k5 i (by omega)).trans q3⟩
  obtain ⟨t1, t2⟩ := gTx_ts (τ := τ) hj h1 h2 hT (fun i h0 h9 => by
    show (vAC v j (nI c)).1 i = v.1 i
    unfold vAC
    rw [vRow_n h9, vM_n h0])
  refine ⟨vAC v j (nI c), t1, t2, ?_, rfl, rfl⟩
  show gws E (ts τ j w2) (rS (vM v j 3 (nI (n + 1)))) ++ [] = _
  rw [List.append_nil]
  unfold vAC
  rw [gws_ghost hj, e3]
theorem ct_J4_append_bf812 {j : Nat} (hj : j = 554 ∨ j = 557) (hd : 6 ≤ d) (x : Int32) (v : gV) (hp : (v.1 j 3).toNatClampNeg ≤ 110 ∧ ¬ x < 0) : CT E m_J4_append_bf812 d 1 256 [.ref (gX E + j), .int x] (rS v) (Cq (.inl (some (.ref (gX E + j)))) (vAI v j x)) := by
  obtain ⟨p1, p2⟩ := hp
  obtain ⟨c, hc, rfl⟩ := nI_of p2
  refine CT.hid fun τ h1 h2 => ?_
  obtain ⟨g1, g2, g3, n, g4, g5, g6, g7⟩ := gTx_j hj h1 h2
  have en : (v.1 j 3).toNatClampNeg = n := by rw [show v.1 j 3 = nI n from g4]; exact nI_clamp (by omega)
  have ec : (nI c).toNatClampNeg = c := nI_clamp hc
  rw [en] at p1
  have h := j_appendI (E := E) (d := d) (w := tj τ j) (τ := τ) hj g2 g4 p1 g5 hc g6 g1 hd
  rw [ts_tj] at h
  refine HC.mono h ?_
  rintro o ρ' ⟨rfl, w2, rfl, k1, k2, k3, k4, k5, k6⟩
  have e3 : v.1 j 3 + nI (sb_dg c) = nI (n + sb_dg c) := by rw [show v.1 j 3 = nI n from g4, nI_add]
  have hT : gTx (rS (vAI v j (nI c))) j w2 := by
    refine ⟨k4, ?_, by rw [k3]; exact g3, n + sb_dg c, ?_, k1, k2, fun i hi => ?_⟩
    · show (vAI v j (nI c)).1 j 1 = 0
      unfold vAI
      rw [vRow_n (by omega), vM_s, pk_un (by decide)]
      exact g2
    · show (vAI v j (nI c)).1 j 3 = _
      unfold vAI
      rw [vRow_n (by omega), vM_s, pk_us, ec, e3]
    · show ∃ c', c' < 256 ∧ (vAI v j (nI c)).1 (j + 1) i = nI c' ∧ _
      unfold vAI
      rw [vRow_s, en, ec]
      by_cases hi' : n ≤ i
      · rw [if_pos ⟨hi', hi⟩]
        refine ⟨sb_dec c (i - n), by unfold sb_dec; omega, rfl, ?_⟩
        have := k6 (i - n) (by omega)
        rw [show n + (i - n) = i by omega] at this
        exact this
      · rw [if_neg (fun h => hi' h.1)]
        obtain ⟨c', q1, q2, q3⟩ := g7 i (by omega)
        exact ⟨c', q1, q2, (k5 i (by omega)).trans q3⟩
  obtain ⟨t1, t2⟩ := gTx_ts (τ := τ) hj h1 h2 hT (fun i h0 h9 => by
    show (vAI v j (nI c)).1 i = v.1 i
    unfold vAI
    rw [vRow_n h9, vM_n h0])
  refine ⟨vAI v j (nI c), t1, t2, ?_, rfl, rfl⟩
  show gws E (ts τ j w2) (rS (vM v j 3 (nI (n + sb_dg c)))) ++ [] = _
  rw [List.append_nil]
  unfold vAI
  rw [gws_ghost hj, ec, e3]
end TEXT
