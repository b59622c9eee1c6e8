/-! a book copied -/
def rel (o k : Nat) : Prop := (o = 0 ∧ 5 ≤ k ∧ k ≤ 11) ∨ (o = 1 ∧ (k = 1 ∨ k = 2)) ∨ (2 ≤ o ∧ o ≤ 8 ∧ k < 8) ∨ (o = 10 ∧ (k = 1 ∨ k = 2)) ∨ (11 ≤ o ∧ o ≤ 16 ∧ k < 12) ∨ (18 ≤ o ∧ o ≤ 29 ∧ k < 4) ∨ (o = 30 ∧ k = 6) ∨ (31 ≤ o ∧ o ≤ 34 ∧ k < 4) ∨ (39 ≤ o ∧ o ≤ 44 ∧ k < 6) ∨ (o = 45 ∧ k = 4) ∨ (46 ≤ o ∧ o ≤ 48 ∧ k < 8)
theorem BR_copy {B : Nat} {u v' : gV} {b b2 : Nat} {w : Nat → Int32} {np nc nt no : Nat} (hv : ∀ o k, rel o k → v'.1 (b + o) k = u.1 (b2 + o) k) (h : BR B u b2 w np nc nt no) : BR B v' b w np nc nt no := by
  obtain ⟨hw, hs, wp, wc, wt, we, wo, bs, bp, bc, bt, be, bo, bk, bx⟩ := h
  obtain ⟨n1, n2, n3, n4, n5, n6, n7, n8⟩ := id hw
  have h0 : ∀ k, 5 ≤ k → k ≤ 11 → v'.1 b k = u.1 b2 k := fun k h1 h2 => hv 0 k (by unfold rel; omega)
  refine ⟨hw, hs, wp, wc, wt, we, wo, ?_, fun k hk => ?_, fun k hk => ?_, fun k hk => ?_, fun p d hp hd => ?_, fun k hk => ?_, ⟨?_, fun k hk => ?_⟩, fun k hk => ?_⟩
  · unfold BRs
    rw [hv 1 1 (by unfold rel; omega), hv 1 2 (by unfold rel; omega), hv 10 1 (by unfold rel; omega), hv 10 2 (by unfold rel; omega), hv 30 6 (by unfold rel; omega), hv 45 4 (by unfold rel; omega), h0 5 (by omega) (by omega), h0 6 (by omega) (by omega)]
    exact bs
  · rw [hv 2 k (by unfold rel; omega), hv 3 k (by unfold rel; omega), hv 4 k (by unfold rel; omega), hv 5 k (by unfold rel; omega), hv 6 k (by unfold rel; omega), hv 7 k (by unfold rel; omega), hv 8 k (by unfold rel; omega)]
    exact bp k hk
  · have h1 := bc k hk
    rw [hv 11 k (by unfold rel; omega), hv 12 k (by unfold rel; omega), hv 13 k (by unfold rel; omega), hv 14 k (by unfold rel; omega), hv 15 k (by unfold rel; omega), hv 16 k (by unfold rel; omega)]
    refine ⟨h1.1, h1.2.1, h1.2.2.1, h1.2.2.2.1, h1.2.2.2.2.1, h1.2.2.2.2.2.1, fun o ho => ?_⟩
    rw [show b + 18 + k = b + (18 + k) by omega, hv (18 + k) o (by unfold rel; omega), show b2 + (18 + k) = b2 + 18 + k by omega]
    exact h1.2.2.2.2.2.2 o ho
  · rw [hv 31 k (by unfold rel; omega), hv 32 k (by unfold rel; omega), hv 33 k (by unfold rel; omega)]
    exact bt k hk
  · rw [show b + 39 + p = b + (39 + p) by omega, hv (39 + p) d (by unfold rel; omega), show b2 + (39 + p) = b2 + 39 + p by omega]
    exact be p d hp hd
  · rw [hv 46 k (by unfold rel; omega), hv 47 k (by unfold rel; omega), hv 48 k (by unfold rel; omega)]
    exact bo k hk
  · rw [h0 6 (by omega) (by omega), h0 7 (by omega) (by omega), h0 8 (by omega) (by omega), h0 9 (by omega) (by omega), h0 10 (by omega) (by omega), h0 11 (by omega) (by omega)]
    exact bk.1
  · rw [hv 34 k (by unfold rel; omega)]
    exact bk.2 k hk
  · rw [hv 13 k (by unfold rel; omega)]
    exact bx k hk
def PD (v u : gV) (b b2 : Nat) (S : Nat → Nat → Prop) : Prop := u.2 = v.2 ∧ (∀ j, j < b ∨ b + 50 ≤ j → u.1 j = v.1 j) ∧ ∀ o k, rel o k → S o k → u.1 (b + o) k = v.1 (b2 + o) k
theorem PD.weak {v u : gV} {b b2 : Nat} {S T : Nat → Nat → Prop} (h : PD v u b b2 S) (hs : ∀ o k, rel o k → T o k → S o k) : PD v u b b2 T := ⟨h.1, h.2.1, fun o k hr ht => h.2.2 o k hr (hs o k hr ht)⟩
theorem PDr {v u : gV} {b b2 : Nat} {S : Nat → Nat → Prop} (hbb : b2 + 50 ≤ b ∨ b + 50 ≤ b2) (h : PD v u b b2 S) (o N : Nat) (ho : o < 50) (hN : N < 4000) (hr : ∀ k, rel o k → k < N) : PD v (f_X11_copyRow (b2 + o) N (b + o) N u) b b2 (fun o' k' => o' = o ∨ S o' k') := by
  rw [F_X11_copyRow _ _ _ _ hN]
  refine ⟨h.1, fun j hj => ?_, fun o' k' hr' hs => ?_⟩
  · rw [vRow_ne _ _ (by omega)]
    exact h.2.1 j hj
  · by_cases e : o' = o
    · subst e
      rw [vRow_eq, cpy_lt (hr k' hr'), h.2.1 _ (by omega)]
    · rw [vRow_ne _ _ (by omega)]
      exact h.2.2 o' k' hr' (hs.resolve_left e)
theorem PDm {v u : gV} {b b2 : Nat} {S : Nat → Nat → Prop} (hbb : b2 + 50 ≤ b ∨ b + 50 ≤ b2) (h : PD v u b b2 S) (o k : Nat) (ho : o < 50) : PD v (vM u (b + o) k (u.1 (b2 + o) k)) b b2 (fun o' k' => (o' = o ∧ k' = k) ∨ S o' k') := by
  rw [vM_rw]
  refine ⟨h.1, fun j hj => ?_, fun o' k' hr' hs => ?_⟩
  · rw [vRow_ne _ _ (by omega)]
    exact h.2.1 j hj
  · by_cases e : o' = o
    · subst e
      rw [vRow_eq]
      by_cases e2 : k' = k
      · subst e2
        rw [upd_eq, h.2.1 _ (by omega)]
      · rw [upd_ne e2]
        exact h.2.2 o' k' hr' (hs.resolve_left fun h => e2 h.2)
    · rw [vRow_ne _ _ (by omega)]
      exact h.2.2 o' k' hr' (hs.resolve_left fun h => e h.1)
theorem PD_pol {v u : gV} {b b2 : Nat} {S : Nat → Nat → Prop} (hbb : b2 + 50 ≤ b ∨ b + 50 ≤ b2) (h : PD v u b b2 S) : p_X5_copyFrom b b2 u ∧ PD v (f_X5_copyFrom b b2 u) b b2 (fun o k => (1 ≤ o ∧ o ≤ 8) ∨ S o k) := by
  constructor
  · simp (disch := omega) only [p_X5_copyFrom_71, p_X5_copyFrom_60, p_X5_copyFrom_49, p_X5_copyFrom_38, p_X5_copyFrom_27, p_X5_copyFrom_16, p_X5_copyFrom_5, p_X5_copyFrom_0, p_X5_copyFrom, p_X6_copyIds_P_27, p_X6_copyIds_P_19, p_X6_copyIds_P_11, p_X6_copyIds_P_0, p_X6_copyIds_P, P_X11_copyRow, and_self]
  · simp only [f_X5_copyFrom_71, f_X5_copyFrom_60, f_X5_copyFrom_49, f_X5_copyFrom_38, f_X5_copyFrom_27, f_X5_copyFrom_16, f_X5_copyFrom_5, f_X5_copyFrom_0, f_X5_copyFrom, f_X6_copyIds_P_27, f_X6_copyIds_P_19, f_X6_copyIds_P_11, f_X6_copyIds_P_0, f_X6_copyIds_P]
    refine (PDr hbb (PDr hbb (PDr hbb (PDr hbb (PDr hbb (PDr hbb (PDm hbb (PDm hbb (PDr hbb h 2 8 (by omega) (by omega) (fun k hk => by unfold rel at hk; omega)) 1 1 (by omega)) 1 2 (by omega)) 3 8 (by omega) (by omega) (fun k hk => by unfold rel at hk; omega)) 4 8 (by omega) (by omega) (fun k hk => by unfold rel at hk; omega)) 5 8 (by omega) (by omega) (fun k hk => by unfold rel at hk; omega)) 6 8 (by omega) (by omega) (fun k hk => by unfold rel at hk; omega)) 7 8 (by omega) (by omega) (fun k hk => by unfold rel at hk; omega)) 8 8 (by omega) (by omega) (fun k hk => by unfold rel at hk; omega)).weak fun o k hr hs => ?_
    rcases hs with hs | hs
    · show o = 8 ∨ o = 7 ∨ o = 6 ∨ o = 5 ∨ o = 4 ∨ o = 3 ∨ (o = 1 ∧ k = 2) ∨ (o = 1 ∧ k = 1) ∨ o = 2 ∨ S o k
      by_cases e : o = 1
      · have hk : k = 1 ∨ k = 2 := by unfold rel at hr; omega
        rcases hk with rfl | rfl
        · exact Or.inr (Or.inr (Or.inr (Or.inr (Or.inr (Or.inr (Or.inr (Or.inl ⟨e, rfl⟩)))))))
        · exact Or.inr (Or.inr (Or.inr (Or.inr (Or.inr (Or.inr (Or.inl ⟨e, rfl⟩))))))
      · omega
    · exact Or.inr (Or.inr (Or.inr (Or.inr (Or.inr (Or.inr (Or.inr (Or.inr (Or.inr hs))))))))
theorem PD_tre {v u : gV} {b b2 : Nat} {S : Nat → Nat → Prop} (hbb : b2 + 50 ≤ b ∨ b + 50 ≤ b2) (h : PD v u b b2 S) : p_X8_copyFrom b b2 u ∧ PD v (f_X8_copyFrom b b2 u) b b2 (fun o k => (30 ≤ o ∧ o ≤ 34) ∨ S o k) := by
  constructor
  · simp (disch := omega) only [p_X8_copyFrom_52, p_X8_copyFrom_44, p_X8_copyFrom_33, p_X8_copyFrom_22, p_X8_copyFrom_11, p_X8_copyFrom_0, p_X8_copyFrom, P_X11_copyRow, and_self]
  · simp only [f_X8_copyFrom_52, f_X8_copyFrom_44, f_X8_copyFrom_33, f_X8_copyFrom_22, f_X8_copyFrom_11, f_X8_copyFrom_0, f_X8_copyFrom]
    refine (PDm hbb (PDr hbb (PDr hbb (PDr hbb (PDr hbb h 31 4 (by omega) (by omega) (fun k hk => by unfold rel at hk; omega)) 32 4 (by omega) (by omega) (fun k hk => by unfold rel at hk; omega)) 33 4 (by omega) (by omega) (fun k hk => by unfold rel at hk; omega)) 34 4 (by omega) (by omega) (fun k hk => by unfold rel at hk; omega)) 30 6 (by omega)).weak fun o k hr hs => ?_
    rcases hs with hs | hs
    · show (o = 30 ∧ k = 6) ∨ o = 34 ∨ o = 33 ∨ o = 32 ∨ o = 31 ∨ S o k
      unfold rel at hr
      omega
    · exact Or.inr (Or.inr (Or.inr (Or.inr (Or.inr hs))))
theorem PD_off {v u : gV} {b b2 : Nat} {S : Nat → Nat → Prop} (hbb : b2 + 50 ≤ b ∨ b + 50 ≤ b2) (h : PD v u b b2 S) : p_X4_copyFrom b b2 u ∧ PD v (f_X4_copyFrom b b2 u) b b2 (fun o k => (45 ≤ o ∧ o ≤ 48) ∨ S o k) := by
  constructor
  · simp (disch := omega) only [p_X4_copyFrom_41, p_X4_copyFrom_33, p_X4_copyFrom_22, p_X4_copyFrom_11, p_X4_copyFrom_0, p_X4_copyFrom, P_X11_copyRow, and_self]
  · simp only [f_X4_copyFrom_41, f_X4_copyFrom_33, f_X4_copyFrom_22, f_X4_copyFrom_11, f_X4_copyFrom_0, f_X4_copyFrom]
    refine (PDm hbb (PDr hbb (PDr hbb (PDr hbb h 46 8 (by omega) (by omega) (fun k hk => by unfold rel at hk; omega)) 47 8 (by omega) (by omega) (fun k hk => by unfold rel at hk; omega)) 48 8 (by omega) (by omega) (fun k hk => by unfold rel at hk; omega)) 45 4 (by omega)).weak fun o k hr hs => ?_
    rcases hs with hs | hs
    · show (o = 45 ∧ k = 4) ∨ o = 48 ∨ o = 47 ∨ o = 46 ∨ S o k
      unfold rel at hr
      omega
    · exact Or.inr (Or.inr (Or.inr (Or.inr hs)))
theorem L_tri {v : gV} {b b2 : Nat} {S : Nat → Nat → Prop} (hbb : b2 + 50 ≤ b ∨ b + 50 ≤ b2) : ∀ (m i fuel : Nat) (u : gV), i + m = 6 → m < fuel → PD v u b b2 (fun o k => (39 ≤ o ∧ o < 39 + i) ∨ S o k) → p_X9_copyFrom_2 b b2 fuel (nI i) u ∧ PD v (f_X9_copyFrom_2 b b2 fuel (nI i) u) b b2 (fun o k => (39 ≤ o ∧ o ≤ 44) ∨ S o k) := by
  intro m
  induction m with
  | zero =>
    intro i fuel u hk hf h
    obtain ⟨f, rfl⟩ := fuel_s hf
    have hc : (6 : Int32) ≤ nI i := nI_le (a := 6) (by omega) (by omega)
    rw [p_X9_copyFrom_2, f_X9_copyFrom_2, if_pos hc]
    exact ⟨⟨fun _ => trivial, fun h => absurd hc h⟩, h.weak fun o k _ hs => hs.imp (fun h => by omega) id⟩
  | succ m ih =>
    intro i fuel u hk hf h
    obtain ⟨f, rfl⟩ := fuel_s hf
    have hc : ¬ (6 : Int32) ≤ nI i := nI_ge (b := 6) (by omega) (by omega)
    have hpc := P_X11_copyRow (b2 + (39 + i)) (b + (39 + i)) 6 u (by omega)
    have hst := PDr hbb h (39 + i) 6 (by omega) (by omega) (fun k hk => by unfold rel at hk; omega)
    have hi := ih (i + 1) f (f_X11_copyRow (b2 + (39 + i)) 6 (b + (39 + i)) 6 u) (by omega) (by omega) (hst.weak fun o k _ hs => by
      rcases hs with hs | hs
      · by_cases e : o = 39 + i
        · exact Or.inl e
        · exact Or.inr (Or.inl (by omega))
      · exact Or.inr (Or.inr hs))
    have e1 : b + 38 + 1 + i = b + (39 + i) := by omega
    have e2 : b2 + 38 + 1 + i = b2 + (39 + i) := by omega
    have hv : vp_in (nI i) 6 := vi_n (by omega) (by omega)
    rw [p_X9_copyFrom_2, f_X9_copyFrom_2, if_neg hc, cl_n (by omega), e1, e2]
    simp only [f_X9_copyFrom_23, p_X9_copyFrom_23, nI_1, hc, hv, hpc, not_false_eq_true, false_implies, true_implies, true_and]
    exact hi
theorem PD_tri {v u : gV} {b b2 : Nat} {S : Nat → Nat → Prop} (hbb : b2 + 50 ≤ b ∨ b + 50 ≤ b2) (h : PD v u b b2 S) : p_X9_copyFrom b b2 u ∧ PD v (f_X9_copyFrom b b2 u) b b2 (fun o k => (39 ≤ o ∧ o ≤ 44) ∨ S o k) := L_tri hbb 6 0 5000 u (by omega) (by omega) (h.weak fun o k _ hs => hs.resolve_left (by omega))
theorem L_clm {v : gV} {b b2 : Nat} {S : Nat → Nat → Prop} (hbb : b2 + 50 ≤ b ∨ b + 50 ≤ b2) (hx : chars v b2) : ∀ (m i fuel : Nat) (u : gV), i + m = 12 → m < fuel → PD v u b b2 (fun o k => (18 ≤ o ∧ o < 18 + i) ∨ (o = 13 ∧ k < i) ∨ S o k) → p_X2_copyFrom_51 b b2 fuel (nI i) u ∧ PD v (f_X2_copyFrom_51 b b2 fuel (nI i) u) b b2 (fun o k => (18 ≤ o ∧ o ≤ 29) ∨ o = 13 ∨ S o k) := by
  intro m
  induction m with
  | zero =>
    intro i fuel u hk hf h
    obtain ⟨f, rfl⟩ := fuel_s hf
    have hc : (12 : Int32) ≤ nI i := nI_le (a := 12) (by omega) (by omega)
    rw [p_X2_copyFrom_51, f_X2_copyFrom_51, if_pos hc]
    refine ⟨⟨fun _ => trivial, fun h => absurd hc h⟩, h.weak fun o k hr hs => ?_⟩
    rcases hs with hs | hs | hs
    · exact Or.inl (by omega)
    · exact Or.inr (Or.inl ⟨hs, by unfold rel at hr; omega⟩)
    · exact Or.inr (Or.inr hs)
  | succ m ih =>
    intro i fuel u hk hf h
    obtain ⟨f, rfl⟩ := fuel_s hf
    have hc : ¬ (12 : Int32) ≤ nI i := nI_ge (b := 12) (by omega) (by omega)
    have hst := PDm hbb h 13 i (by omega)
    have hst2 := PDr hbb hst (18 + i) 4 (by omega) (by omega) (fun k hk => by unfold rel at hk; omega)
    have hpc := P_X11_copyRow (b2 + (18 + i)) (b + (18 + i)) 4 (vM u (b + 13) i (u.1 (b2 + 13) i)) (by omega)
    have hi := ih (i + 1) f _ (by omega) (by omega) (hst2.weak fun o k _ hs => by
      rcases hs with hs | hs | hs
      · by_cases e : o = 18 + i
        · exact Or.inl e
        · exact Or.inr (Or.inr (Or.inl (by omega)))
      · by_cases e : k = i
        · exact Or.inr (Or.inl ⟨hs.1, e⟩)
        · exact Or.inr (Or.inr (Or.inr (Or.inl (by omega))))
      · exact Or.inr (Or.inr (Or.inr (Or.inr hs))))
    have e1 : b + 17 + 1 + i = b + (18 + i) := by omega
    have e2 : b2 + 17 + 1 + i = b2 + (18 + i) := by omega
    have hv : vp_in (nI i) 12 := vi_n (by omega) (by omega)
    have hn : vp_nar .char (u.1 (b2 + 13) i) = u.1 (b2 + 13) i := by
      rw [h.2.1 (b2 + 13) (by omega)]
      exact hx i (by omega)
    rw [p_X2_copyFrom_51, f_X2_copyFrom_51, if_neg hc, cl_n (by omega)]
    simp only [f_X2_copyFrom_69, p_X2_copyFrom_69, f_X2_copyFrom_84, p_X2_copyFrom_84, cl_n (show i < 2147483648 by omega), e1, e2, nI_1, hc, hv, hn, hpc, not_false_eq_true, false_implies, true_implies, true_and]
    exact hi
theorem PD_clm {v u : gV} {b b2 : Nat} {S : Nat → Nat → Prop} (hbb : b2 + 50 ≤ b ∨ b + 50 ≤ b2) (hx : chars v b2) (h : PD v u b b2 S) : p_X2_copyFrom b b2 u ∧ PD v (f_X2_copyFrom b b2 u) b b2 (fun o k => (10 ≤ o ∧ o ≤ 29) ∨ S o k) := by
  have hst := PDr hbb (PDr hbb (PDr hbb (PDr hbb (PDm hbb (PDm hbb (PDr hbb h 11 12 (by omega) (by omega) (fun k hk => by unfold rel at hk; omega)) 10 1 (by omega)) 10 2 (by omega)) 12 12 (by omega) (by omega) (fun k hk => by unfold rel at hk; omega)) 14 12 (by omega) (by omega) (fun k hk => by unfold rel at hk; omega)) 15 12 (by omega) (by omega) (fun k hk => by unfold rel at hk; omega)) 16 12 (by omega) (by omega) (fun k hk => by unfold rel at hk; omega)
  have hl := L_clm (S := fun o k => (10 ≤ o ∧ o ≤ 12) ∨ (14 ≤ o ∧ o ≤ 16) ∨ S o k) hbb hx 12 0 5000 _ (by omega) (by omega) (hst.weak fun o k hr hs => by
    rcases hs with hs | hs | hs | hs | hs
    · omega
    · omega
    · by_cases e : o = 10
      · have hk : k = 1 ∨ k = 2 := by unfold rel at hr; omega
        rcases hk with rfl | rfl
        · exact Or.inr (Or.inr (Or.inr (Or.inr (Or.inr (Or.inl ⟨e, rfl⟩)))))
        · exact Or.inr (Or.inr (Or.inr (Or.inr (Or.inl ⟨e, rfl⟩))))
      · by_cases e2 : o = 11
        · exact Or.inr (Or.inr (Or.inr (Or.inr (Or.inr (Or.inr (Or.inl e2))))))
        · exact Or.inr (Or.inr (Or.inr (Or.inl (by omega))))
    · by_cases e : o = 14
      · exact Or.inr (Or.inr (Or.inl e))
      · by_cases e2 : o = 15
        · exact Or.inr (Or.inl e2)
        · exact Or.inl (by omega)
    · exact Or.inr (Or.inr (Or.inr (Or.inr (Or.inr (Or.inr (Or.inr hs)))))))
  constructor
  · simp (disch := omega) only [p_X2_copyFrom_84, p_X2_copyFrom_69, p_X2_copyFrom_49, p_X2_copyFrom_38, p_X2_copyFrom_27, p_X2_copyFrom_16, p_X2_copyFrom_5, p_X2_copyFrom_0, p_X2_copyFrom, p_X6_copyIds_C_27, p_X6_copyIds_C_19, p_X6_copyIds_C_11, p_X6_copyIds_C_0, p_X6_copyIds_C, f_X6_copyIds_C_27, f_X6_copyIds_C_19, f_X6_copyIds_C_11, f_X6_copyIds_C_0, f_X6_copyIds_C, P_X11_copyRow, true_and]
    exact hl.1
  · simp only [f_X2_copyFrom_84, f_X2_copyFrom_69, f_X2_copyFrom_49, f_X2_copyFrom_38, f_X2_copyFrom_27, f_X2_copyFrom_16, f_X2_copyFrom_5, f_X2_copyFrom_0, f_X2_copyFrom, f_X6_copyIds_C_27, f_X6_copyIds_C_19, f_X6_copyIds_C_11, f_X6_copyIds_C_0, f_X6_copyIds_C]
    refine hl.2.weak fun o k hr hs => ?_
    rcases hs with hs | hs
    · unfold rel at hr
      show (18 ≤ o ∧ o ≤ 29) ∨ o = 13 ∨ (10 ≤ o ∧ o ≤ 12) ∨ (14 ≤ o ∧ o ≤ 16) ∨ S o k
      omega
    · exact Or.inr (Or.inr (Or.inr (Or.inr hs)))
/-- copyFrom: behind it the book at b is the one at b2, and nothing else has changed -/
theorem K_copyFrom (v : gV) {b b2 : Nat} (hbb : b2 + 50 ≤ b ∨ b + 50 ≤ b2) (hx : chars v b2) : p_X1_copyFrom b b2 v ∧ (f_X1_copyFrom b b2 v).2 = v.2 ∧ (∀ j, j < b ∨ b + 50 ≤ j → (f_X1_copyFrom b b2 v).1 j = v.1 j) ∧ ∀ o k, rel o k → (f_X1_copyFrom b b2 v).1 (b + o) k = v.1 (b2 + o) k := by
  have h0 : PD v v b b2 (fun _ _ => False) := ⟨rfl, fun _ _ => rfl, fun _ _ _ h => h.elim⟩
  have h1 := PD_pol hbb h0
  have h2 := PD_clm hbb hx h1.2
  have h3 := PD_tre hbb h2.2
  have h4 := PD_tri hbb h3.2
  have h5 := PD_off hbb h4.2
  have h6 := PDm hbb (PDm hbb (PDm hbb (PDm hbb (PDm hbb (PDm hbb (PDm hbb h5.2 0 5 (by omega)) 0 6 (by omega)) 0 7 (by omega)) 0 8 (by omega)) 0 9 (by omega)) 0 10 (by omega)) 0 11 (by omega)
  have h7 := h6.weak (T := fun _ _ => True) (fun o k hr _ => by
    by_cases e : o = 0
    · have hk : k = 5 ∨ k = 6 ∨ k = 7 ∨ k = 8 ∨ k = 9 ∨ k = 10 ∨ k = 11 := by unfold rel at hr; omega
      rcases hk with rfl | rfl | rfl | rfl | rfl | rfl | rfl
      · exact Or.inr (Or.inr (Or.inr (Or.inr (Or.inr (Or.inr (Or.inl ⟨e, rfl⟩))))))
      · exact Or.inr (Or.inr (Or.inr (Or.inr (Or.inr (Or.inl ⟨e, rfl⟩)))))
      · exact Or.inr (Or.inr (Or.inr (Or.inr (Or.inl ⟨e, rfl⟩))))
      · exact Or.inr (Or.inr (Or.inr (Or.inl ⟨e, rfl⟩)))
      · exact Or.inr (Or.inr (Or.inl ⟨e, rfl⟩))
      · exact Or.inr (Or.inl ⟨e, rfl⟩)
      · exact Or.inl ⟨e, rfl⟩
    · refine Or.inr (Or.inr (Or.inr (Or.inr (Or.inr (Or.inr (Or.inr ?_))))))
      show (45 ≤ o ∧ o ≤ 48) ∨ (39 ≤ o ∧ o ≤ 44) ∨ (30 ≤ o ∧ o ≤ 34) ∨ (10 ≤ o ∧ o ≤ 29) ∨ (1 ≤ o ∧ o ≤ 8) ∨ False
      unfold rel at hr
      omega)
  refine ⟨?_, ?_⟩
  · simp only [p_X1_copyFrom_111, p_X1_copyFrom_103, p_X1_copyFrom_95, p_X1_copyFrom_87, p_X1_copyFrom_79, p_X1_copyFrom_71, p_X1_copyFrom_63, p_X1_copyFrom_55, p_X1_copyFrom_44, p_X1_copyFrom_33, p_X1_copyFrom_22, p_X1_copyFrom_11, p_X1_copyFrom_0, p_X1_copyFrom, h1.1, h2.1, h3.1, h4.1, h5.1, and_self]
  · simp only [f_X1_copyFrom_111, f_X1_copyFrom_103, f_X1_copyFrom_95, f_X1_copyFrom_87, f_X1_copyFrom_79, f_X1_copyFrom_71, f_X1_copyFrom_63, f_X1_copyFrom_55, f_X1_copyFrom_44, f_X1_copyFrom_33, f_X1_copyFrom_22, f_X1_copyFrom_11, f_X1_copyFrom_0, f_X1_copyFrom]
    exact ⟨h7.1, h7.2.1, fun o k hr => h7.2.2 o k hr trivial⟩
