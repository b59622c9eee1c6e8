/-! a treaty dropped; offers; days -/
theorem L_coinsOf (v : gV) {t n : Nat} (ht : t < 4) (hn : n ≤ 12) (h : v.1 11 1 = nI n) : ∀ (m k fuel : Nat) (a : Int32), k + m = n → m < fuel → p_X2_coinsOf_4 1 fuel (nI t) a (nI k) v ∧ f_X2_coinsOf_4 1 fuel (nI t) a (nI k) v = lp (fun i a => a + v.1 (19 + i) t) m k a := by
  intro m
  induction m with
  | zero =>
    intro k fuel a hk hf
    obtain ⟨f, rfl⟩ := fuel_s hf
    have hc : v.1 (1 + 10) 1 ≤ nI k := by
      rw [show v.1 (1 + 10) 1 = nI n from h]
      exact nI_le (by omega) (by omega)
    rw [p_X2_coinsOf_4, f_X2_coinsOf_4, if_pos hc]
    exact ⟨⟨fun _ => trivial, fun h => absurd hc h⟩, rfl⟩
  | succ m ih =>
    intro k fuel a hk hf
    obtain ⟨f, rfl⟩ := fuel_s hf
    have hc : ¬ v.1 (1 + 10) 1 ≤ nI k := by
      rw [show v.1 (1 + 10) 1 = nI n from h]
      exact nI_ge (by omega) (by omega)
    have hi := ih (k + 1) f (a + v.1 (19 + k) t) (by omega) (by omega)
    rw [p_X2_coinsOf_4, f_X2_coinsOf_4, if_neg hc, cl_n (by omega), cl_n (by omega), nI_1, lp_s]
    exact ⟨⟨fun h => absurd h hc, fun _ => ⟨vi_n (by omega) (by omega), vi_n (by omega) (by omega), hi.1⟩⟩, hi.2⟩
/-- the coins of claims that the treaty t bears -/
theorem K_coinsOf {v : gV} {w : Nat → Int32} {np nc nt no t : Nat} (hn : nc ≤ 12) (bs : BRs v 1 w np nc nt no) (bc : BRc v 1 w nc) (wc : WFc w np nc nt) (ht : t < 4) : p_X2_coinsOf 1 (nI t) v ∧ (f_X2_coinsOf 1 (nI t) v).toInt = sI (fun i => prt w i t) nc := by
  have h := L_coinsOf v ht hn bs.2.2.1 nc 0 5000 (nI 0) (by omega) (by omega)
  refine ⟨h.1, ?_⟩
  have h2 : f_X2_coinsOf 1 (nI t) v = lp (fun i a => a + v.1 (19 + i) t) nc 0 (nI 0) := h.2
  rw [h2]
  have h3 := lp_inv (g := fun i a => a + v.1 (19 + i) t) (fun i (a : Int32) => i ≤ nc → a.toInt = sI (fun i => prt w i t) i ∧ a.toInt ≤ i * 99) nc 0 (nI 0) (fun _ => ⟨tI (by omega), by rw [tI (by omega)]; omega⟩) (fun i a _ hi ha hin => by
    have ha := ha (by omega)
    obtain ⟨c1, c2, c3, c4, c5, c6, c7, c8, c9, c10, c11, c12, c13⟩ := wc.1 i (by omega)
    have e : v.1 (19 + i) t = w (72 + 12 * i + (6 + t)) := (bc i (by omega)).2.2.2.2.2.2 t ht
    have hp : (w (72 + 12 * i + (6 + t))).toInt = prt w i t := rfl
    have h0 := c11 t ht
    have h1 := sI_le (f := prt w i) (n := 4) c11 ht
    have h5 : 0 ≤ a.toInt := by
      rw [ha.1]
      exact sI_nn fun j hj => (wc.1 j (by omega)).2.2.2.2.2.2.2.2.2.2.1 t ht
    have h4 : (a + v.1 (19 + i) t).toInt = a.toInt + prt w i t := by
      rw [e, ti_add (by rw [hp]; omega) (by rw [hp]; omega), hp]
    refine ⟨?_, ?_⟩
    · rw [h4, ha.1]
      rfl
    · rw [h4]
      omega)
  rw [Nat.zero_add] at h3
  exact (h3 (by omega)).1
theorem hct_0 {w : Nat → Int32} {np nc nt t : Nat} (wc : WFc w np nc nt) (ht : t < 4) : hct w nc t = false ↔ sI (fun i => prt w i t) nc ≤ 0 := by
  unfold hct
  have hpos : ∀ i, (w (72 + 12 * i + (6 + t)) ≤ nI 0) ↔ prt w i t ≤ 0 := fun i => by
    rw [i_le, tI (by omega)]
    exact Iff.rfl
  have hnn : ∀ i, i < nc → 0 ≤ prt w i t := fun i hi => (wc.1 i hi).2.2.2.2.2.2.2.2.2.2.1 t ht
  cases e : ff (fun i => !decide (w (72 + 12 * i + (6 + t)) ≤ nI 0)) nc 0 with
  | none =>
    refine ⟨fun _ => ?_, fun _ => rfl⟩
    rw [sI_congr (g := fun _ => 0) fun i hi => by
      have h1 := ff_none nc 0 e i (by omega) (by omega)
      rw [Bool.not_eq_false', decide_eq_true_iff, hpos] at h1
      have := hnn i hi
      omega]
    have h0 : ∀ n, sI (fun _ => 0) n = 0 := fun n => by
      induction n with
      | zero => rfl
      | succ n ih => show sI (fun _ => 0) n + 0 = 0; rw [ih]; rfl
    rw [h0]
    exact Int.le_refl _
  | some i =>
    refine ⟨fun h => (by cases h), fun h => ?_⟩
    obtain ⟨-, h1, h2, -⟩ := ff_some nc 0 i e
    rw [Bool.not_eq_true', decide_eq_false_iff_not, hpos] at h2
    have h3 := sI_le (f := fun i => prt w i t) (n := nc) (i := i) hnn (by omega)
    omega
theorem P_cg4 (v : gV) (j : Nat) {k : Nat} (hk : k < 4) : p_X11_closeGap j 4 (nI k) v := P_X11_closeGap j 4 v hk (by omega)
theorem F_cg4 {u v : gV} {j k : Nat} (hk : k < 4) (h : u.1 j = v.1 j) : f_X11_closeGap j 4 (nI k) u = vRow u j (gap (v.1 j) k 3) := by
  rw [F_X11_closeGap j 4 u hk (by omega), h]
def cRmT (v : gV) (n t : Nat) : gV := vRow (vRow (vRow (vRow (vRow v 32 (gap (v.1 32) t 3)) 33 (gap (v.1 33) t 3)) 34 (gap (v.1 34) t 3)) 35 (gap (v.1 35) t 3)) 31 (upd (v.1 31) 6 (nI (n - 1)))
theorem T_remove_T (v : gV) {n t : Nat} (h : v.1 31 6 = nI n) (ht : t < n) (hn : n ≤ 4) : p_X8_remove 1 (nI t) v ∧ f_X8_remove 1 (nI t) v = cRmT v n t := by
  have ht4 : t < 4 := by omega
  constructor
  · simp (disch := omega) only [p_X8_remove_42, p_X8_remove_32, p_X8_remove_24, p_X8_remove_16, p_X8_remove_8, p_X8_remove_0, p_X8_remove, P_cg4, and_self]
  · have e : f_X8_remove 1 (nI t) v = f_X8_remove_32 1 (f_X11_closeGap 35 4 (nI t) (f_X11_closeGap 34 4 (nI t) (f_X11_closeGap 33 4 (nI t) (f_X11_closeGap 32 4 (nI t) v)))) := rfl
    rw [e, F_cg4 (v := v) (j := 32) ht4 rfl]
    rw [F_cg4 (v := v) (j := 33) ht4 (by simp (disch := omega) only [vRow_ne])]
    rw [F_cg4 (v := v) (j := 34) ht4 (by simp (disch := omega) only [vRow_ne])]
    rw [F_cg4 (v := v) (j := 35) ht4 (by simp (disch := omega) only [vRow_ne])]
    unfold cRmT
    simp (disch := omega) only [f_X8_remove_32, f_X8_remove_42, Nat.reduceAdd, li_0, li_1, li_2, li_3, li_4, li_5, li_6, li_7, li_8, li_9, li_10, li_11, li_12, li_29, li_30, li_32, li_33, li_35, li_42, li_43, li_45, li_47, li_48, li_50, li_57, li_58, li_59, li_60, li_61, li_63, li_64, li_67, li_68, li_72, li_78, li_79, li_80, li_97, li_99, li_100, li_101, li_102, li_103, li_105, li_108, li_109, li_110, li_111, li_112, li_114, li_115, li_116, li_117, li_118, li_119, li_120, li_121, li_126, li_216, li_232, li_240, li_264, li_300, li_1000, li_1000000, li_2147483647, nI_add, nI_mul, cl_n, vi_n, sub_n, vM_rw, vRow_ne, h]
/-- the treaty t out of the parts of n claims -/
def fgt (v : gV) (t i n : Nat) : gV := (fun j => if 19 + i ≤ j ∧ j < 19 + n then upd (gap (v.1 j) t 3) 3 (nI 0) else v.1 j, v.2)
theorem L_forget {t n : Nat} (ht : t < 4) (hn : n ≤ 12) : ∀ (m i fuel : Nat) (v : gV), i + m = n → m < fuel → v.1 11 1 = nI n → p_X2_forgetTreaty_2 1 fuel (nI t) (nI i) v ∧ f_X2_forgetTreaty_2 1 fuel (nI t) (nI i) v = fgt v t i n := by
  intro m
  induction m with
  | zero =>
    intro i fuel v hk hf h
    obtain ⟨f, rfl⟩ := fuel_s hf
    have hc : v.1 (1 + 10) 1 ≤ nI i := by
      rw [show v.1 (1 + 10) 1 = nI n from h]
      exact nI_le (by omega) (by omega)
    have e : fgt v t i n = v := by
      apply Prod.ext
      · funext j
        exact if_neg (by omega)
      · rfl
    rw [p_X2_forgetTreaty_2, f_X2_forgetTreaty_2, if_pos hc, e]
    exact ⟨⟨fun _ => trivial, fun h => absurd hc h⟩, rfl⟩
  | succ m ih =>
    intro i fuel v hk hf h
    obtain ⟨f, rfl⟩ := fuel_s hf
    have hc : ¬ v.1 (1 + 10) 1 ≤ nI i := by
      rw [show v.1 (1 + 10) 1 = nI n from h]
      exact nI_ge (by omega) (by omega)
    have hu : vM (f_X11_closeGap (19 + i) 4 (nI t) v) (19 + i) 3 (nI 0) = vRow v (19 + i) (upd (gap (v.1 (19 + i)) t 3) 3 (nI 0)) := by
      rw [F_cg4 (v := v) ht rfl, vM_rw, vRow_row, vRow_eq]
    have hi := ih (i + 1) f (vRow v (19 + i) (upd (gap (v.1 (19 + i)) t 3) 3 (nI 0))) (by omega) (by omega) (by rw [vRow_ne _ _ (by omega)]; exact h)
    have e : fgt (vRow v (19 + i) (upd (gap (v.1 (19 + i)) t 3) 3 (nI 0))) t (i + 1) n = fgt v t i n := by
      apply Prod.ext
      · funext j
        show (if 19 + (i + 1) ≤ j ∧ j < 19 + n then upd (gap ((vRow v (19 + i) _).1 j) t 3) 3 (nI 0) else (vRow v (19 + i) _).1 j) = if 19 + i ≤ j ∧ j < 19 + n then upd (gap (v.1 j) t 3) 3 (nI 0) else v.1 j
        by_cases h1 : j = 19 + i
        · subst h1
          rw [if_neg (show ¬ (19 + (i + 1) ≤ 19 + i ∧ 19 + i < 19 + n) by omega), if_pos (show 19 + i ≤ 19 + i ∧ 19 + i < 19 + n by omega), vRow_eq]
        · rw [vRow_ne _ _ h1]
          by_cases h2 : 19 + (i + 1) ≤ j ∧ j < 19 + n
          · rw [if_pos h2, if_pos (show 19 + i ≤ j ∧ j < 19 + n by omega)]
          · rw [if_neg h2, if_neg (show ¬ (19 + i ≤ j ∧ j < 19 + n) by omega)]
      · rfl
    rw [e] at hi
    have e3 : 1 + 17 + 1 + i = 19 + i := by omega
    have hpc := P_cg4 v (19 + i) ht
    have hv : vp_in (nI i) 12 := vi_n (by omega) (by omega)
    have c3 : (nI 3).toNatClampNeg = 3 := cl_n (by omega)
    rw [p_X2_forgetTreaty_2, f_X2_forgetTreaty_2, if_neg hc]
    simp only [f_X2_forgetTreaty_20, p_X2_forgetTreaty_20, f_X2_forgetTreaty_29, p_X2_forgetTreaty_29, li_3, li_0, li_1, c3, cl_n (show i < 2147483648 by omega), e3, hu, hpc, hv, hc, nI_add, not_false_eq_true, false_implies, true_implies, true_and]
    exact hi
def cVoi (v : gV) (n nc t : Nat) : gV := fgt (cRmT v n t) t 0 nc
theorem cRmT_ne (v : gV) {n t j : Nat} (h : j < 31 ∨ 35 < j) : (cRmT v n t).1 j = v.1 j := by
  unfold cRmT
  simp (disch := omega) only [vRow_ne]
theorem cVoi_ne (v : gV) {n nc t j : Nat} (h : j < 19 ∨ 35 < j) (hn : nc ≤ 12) : (cVoi v n nc t).1 j = v.1 j := by
  show (if 19 + 0 ≤ j ∧ j < 19 + nc then _ else (cRmT v n t).1 j) = v.1 j
  rw [if_neg (by omega), cRmT_ne _ (by omega)]
theorem cVoi_T (v : gV) {n nc t j : Nat} (h : 31 ≤ j) (hn : nc ≤ 12) : (cVoi v n nc t).1 j = (cRmT v n t).1 j := by
  show (if 19 + 0 ≤ j ∧ j < 19 + nc then _ else (cRmT v n t).1 j) = _
  rw [if_neg (by omega)]
theorem cVoi_row (v : gV) {n nc t i : Nat} (hi : i < nc) (hn : nc ≤ 12) : (cVoi v n nc t).1 (19 + i) = upd (gap (v.1 (19 + i)) t 3) 3 (nI 0) := by
  show (if 19 + 0 ≤ 19 + i ∧ 19 + i < 19 + nc then upd (gap ((cRmT v n t).1 (19 + i)) t 3) 3 (nI 0) else (cRmT v n t).1 (19 + i)) = _
  rw [if_pos (by omega), cRmT_ne _ (by omega)]
theorem cVoi_Fr (v : gV) {n nc t : Nat} (hn : nc ≤ 12) : Fr v (cVoi v n nc t) := ⟨rfl, fun j hj => cVoi_ne v (by omega) hn⟩
/-- the reference's row behind a treaty's end -/
theorem mVoi_at (w : Nat → Int32) {n nc t : Nat} (hn : n ≤ 4) (ht : t < n) (hnc : nc ≤ 12) : (∀ i, i < 72 ∨ 232 ≤ i → ¬ i = 2 → mVoi w n nc t i = w i) ∧ mVoi w n nc t 2 = nI (n - 1) ∧ (∀ i o, i < 12 → o < 6 → mVoi w n nc t (72 + 12 * i + o) = w (72 + 12 * i + o)) ∧ (∀ i o, i < nc → o < 4 → mVoi w n nc t (72 + 12 * i + (6 + o)) = if o < t then w (72 + 12 * i + (6 + o)) else if o + 1 < n then w (72 + 12 * i + (6 + (o + 1))) else if o + 1 = n then nI 0 else w (72 + 12 * i + (6 + o))) ∧ (∀ k o, k + 1 < n → o < 4 → mVoi w n nc t (216 + 4 * k + o) = if k < t then w (216 + 4 * k + o) else w (216 + 4 * (k + 1) + o)) := by
  have b0 : ∀ i, i < 216 ∨ 232 ≤ i → ¬ i = 2 → rmv (upd w 2 (nI (n - 1))) (216 + 4 * t) (216 + 4 * (n - 1)) 4 i = w i := fun i h1 h2 => by
    unfold rmv
    rw [fil_out (by omega), shf_out (by omega), upd_ne h2]
  have b2 : rmv (upd w 2 (nI (n - 1))) (216 + 4 * t) (216 + 4 * (n - 1)) 4 2 = nI (n - 1) := by
    unfold rmv
    rw [fil_out (by omega), shf_out (by omega), upd_eq]
  have bt : ∀ k o, k + 1 < n → o < 4 → rmv (upd w 2 (nI (n - 1))) (216 + 4 * t) (216 + 4 * (n - 1)) 4 (216 + 4 * k + o) = if k < t then w (216 + 4 * k + o) else w (216 + 4 * (k + 1) + o) := fun k o h1 h2 => by
    unfold rmv
    rw [fil_out (by omega)]
    by_cases h : k < t
    · rw [shf_out (by omega), upd_ne (by omega), if_pos h]
    · rw [shf_in (by omega), upd_ne (by omega), if_neg h, show 216 + 4 * k + o + 4 = 216 + 4 * (k + 1) + o by omega]
  have h := lp_inv (g := fun k w => vo1 w k t n) (fun m (u : Nat → Int32) => m ≤ nc → (∀ i, i < 72 ∨ 216 ≤ i → u i = rmv (upd w 2 (nI (n - 1))) (216 + 4 * t) (216 + 4 * (n - 1)) 4 i) ∧ (∀ i o, i < 12 → o < 6 → u (72 + 12 * i + o) = w (72 + 12 * i + o)) ∧ (∀ i o, i < 12 → m ≤ i → o < 6 → u (72 + 12 * i + (6 + o)) = w (72 + 12 * i + (6 + o))) ∧ (∀ i o, i < m → o < 4 → u (72 + 12 * i + (6 + o)) = if o < t then w (72 + 12 * i + (6 + o)) else if o + 1 < n then w (72 + 12 * i + (6 + (o + 1))) else if o + 1 = n then nI 0 else w (72 + 12 * i + (6 + o)))) nc 0 (rmv (upd w 2 (nI (n - 1))) (216 + 4 * t) (216 + 4 * (n - 1)) 4) (fun _ => ⟨fun i _ => rfl, fun i o hi ho => b0 _ (by omega) (by omega), fun i o hi _ ho => b0 _ (by omega) (by omega), fun i o hi => by omega⟩) (fun m u _ hm hu hle => by
    obtain ⟨u1, u2, u3, u4⟩ := hu (by omega)
    have hv : ∀ j, (j < 72 + 12 * m + 6 ∨ 72 + 12 * m + 10 ≤ j) → vo1 u m t n j = u j := fun j hj => by
      unfold vo1
      rw [upd_ne (by omega), shf_out (by omega)]
    refine ⟨fun i hi => ?_, fun i o hi ho => ?_, fun i o hi hmi ho => ?_, fun i o hi ho => ?_⟩
    · show vo1 u m t n i = _
      rw [hv i (by omega)]
      exact u1 i hi
    · show vo1 u m t n (72 + 12 * i + o) = _
      rw [hv _ (by omega)]
      exact u2 i o hi ho
    · show vo1 u m t n (72 + 12 * i + (6 + o)) = _
      rw [hv _ (by omega)]
      exact u3 i o hi (by omega) ho
    · show vo1 u m t n (72 + 12 * i + (6 + o)) = _
      by_cases e : i = m
      · subst e
        unfold vo1
        by_cases h1 : o < t
        · rw [if_pos h1, upd_ne (by omega), shf_out (by omega), u3 i o (by omega) (by omega) (by omega)]
        · rw [if_neg h1]
          by_cases h2 : o + 1 < n
          · rw [if_pos h2, upd_ne (by omega), shf_in (by omega), show 72 + 12 * i + (6 + o) + 1 = 72 + 12 * i + (6 + (o + 1)) by omega, u3 i (o + 1) (by omega) (by omega) (by omega)]
          · rw [if_neg h2]
            by_cases h3 : o + 1 = n
            · rw [if_pos h3, upd_is (by omega)]
            · rw [if_neg h3, upd_ne (by omega), shf_out (by omega), u3 i o (by omega) (by omega) (by omega)]
      · rw [hv _ (by omega)]
        exact u4 i o (by omega) ho)
  rw [Nat.zero_add] at h
  obtain ⟨u1, u2, u3, u4⟩ := h (Nat.le_refl _)
  refine ⟨fun i h1 h2 => ?_, ?_, u2, u4, fun k o h1 h2 => ?_⟩
  · unfold mVoi
    rw [u1 i (by omega), b0 i (by omega) h2]
  · unfold mVoi
    rw [u1 2 (by omega), b2]
  · unfold mVoi
    rw [u1 _ (by omega), bt k o h1 h2]
def eVoi (y : Int32) : String := if y = nI 1 then "java/lang/IndexOutOfBoundsException" else "java/lang/IllegalStateException"
theorem K_removeTreaty (x : Int32) (v : gV) {w : Nat → Int32} {B np nc nt no : Nat} (h : BR B v 1 w np nc nt no) : p_X1_removeTreaty 1 x v ∧ (¬ yVoi w nt nc x = nI 0 → f_X1_removeTreaty 1 x v = (Sum.inr (eVoi (yVoi w nt nc x)), v) ∧ (yVoi w nt nc x = nI 1 ∨ yVoi w nt nc x = nI 2)) ∧ (yVoi w nt nc x = nI 0 → ∃ t v', x = nI t ∧ t < nt ∧ f_X1_removeTreaty 1 x v = (Sum.inl (w (216 + 4 * t + 2)), v') ∧ Fr v v' ∧ BR (B + 1) v' 1 (mVoi w nt nc t) np nc (nt - 1) no) := by
  obtain ⟨hw, hs, wp, wc, wt, we, wo, bs, bp, bc, bt, be, bo, bk, bx⟩ := h
  obtain ⟨n1, n2, n3, n4, n5, n6, n7, n8⟩ := id hw
  obtain ⟨s1, s2, s3, s4, s5, s6, s7, s8⟩ := id bs
  have q1 : ¬ nI 1 = nI 0 := n10
  have q2 : ¬ nI 2 = nI 0 := by decide +kernel
  have z1 : eVoi (nI 1) = "java/lang/IndexOutOfBoundsException" := rfl
  have z2 : eVoi (nI 2) = "java/lang/IllegalStateException" := rfl
  have s5' : v.1 31 6 = nI nt := s5
  unfold yVoi
  cases hx : inx x (nI nt) with
  | false =>
    refine ⟨?_, fun _ => ⟨?_, Or.inl (if_neg Bool.false_ne_true)⟩, fun h => absurd h q1⟩
    · simp only [p_X1_removeTreaty_57, p_X1_removeTreaty_49, p_X1_removeTreaty_18, p_X1_removeTreaty_0, p_X1_removeTreaty, P_X11_checkedIndex, F_X11_checkedIndex, Nat.reduceAdd, s5', hx, reduceIte, if_true, if_false, true_and, and_true, false_and, and_false, and_self, not_true_eq_false, not_false_eq_true, true_implies, false_implies, implies_true, forall_const, Bool.false_eq_true, el_l, el_r, Sum.inl.injEq, reduceCtorEq, forall_eq, forall_eq']
    · simp only [f_X1_removeTreaty_57, f_X1_removeTreaty_49, f_X1_removeTreaty_18, f_X1_removeTreaty_0, f_X1_removeTreaty, F_X11_checkedIndex, Nat.reduceAdd, s5', hx, reduceIte, if_true, if_false, true_and, and_true, false_and, and_false, and_self, not_true_eq_false, not_false_eq_true, true_implies, false_implies, implies_true, forall_const, Bool.false_eq_true, el_l, el_r, Sum.inl.injEq, reduceCtorEq, forall_eq, forall_eq', z1]
  | true =>
    obtain ⟨t, ht, rfl⟩ := inx_n (by omega) hx
    have ht4 : t < 4 := by omega
    rw [if_pos rfl, cl_n (by omega)]
    obtain ⟨cp, cf⟩ := K_coinsOf n6 bs bc wc ht4
    have h0 := hct_0 wc ht4
    have hco : (f_X2_coinsOf 1 (nI t) v ≤ 0) ↔ hct w nc t = false := by
      rw [h0, ← cf, i_le, show (0 : Int32).toInt = 0 from rfl]
    have b3 : v.1 34 t = w (216 + 4 * t + 2) := (bt t ht).2.2
    cases hh : hct w nc t with
    | true =>
      have hc : ¬ f_X2_coinsOf 1 (nI t) v ≤ nI 0 := fun h => by
        have := hco.mp h
        rw [hh] at this
        cases this
      refine ⟨?_, fun _ => ⟨?_, Or.inr (if_pos rfl)⟩, fun h => absurd h q2⟩
      · simp (disch := omega) only [p_X1_removeTreaty_57, p_X1_removeTreaty_49, p_X1_removeTreaty_18, p_X1_removeTreaty_0, p_X1_removeTreaty, P_X11_checkedIndex, F_X11_checkedIndex, Nat.reduceAdd, s5', hx, cp, hc, vi_n, li_0, li_1, li_2, li_3, li_4, li_5, li_6, li_7, li_8, li_9, li_10, li_11, li_12, li_29, li_30, li_32, li_33, li_35, li_42, li_43, li_45, li_47, li_48, li_50, li_57, li_58, li_59, li_60, li_61, li_63, li_64, li_67, li_68, li_72, li_78, li_79, li_80, li_97, li_99, li_100, li_101, li_102, li_103, li_105, li_108, li_109, li_110, li_111, li_112, li_114, li_115, li_116, li_117, li_118, li_119, li_120, li_121, li_126, li_216, li_232, li_240, li_264, li_300, li_1000, li_1000000, li_2147483647, reduceIte, if_true, if_false, true_and, and_true, false_and, and_false, and_self, not_true_eq_false, not_false_eq_true, true_implies, false_implies, implies_true, forall_const, Bool.false_eq_true, el_l, el_r, Sum.inl.injEq, reduceCtorEq, forall_eq, forall_eq']
      · simp only [f_X1_removeTreaty_57, f_X1_removeTreaty_49, f_X1_removeTreaty_18, f_X1_removeTreaty_0, f_X1_removeTreaty, F_X11_checkedIndex, Nat.reduceAdd, s5', hx, hc, li_0, li_1, li_2, li_3, li_4, li_5, li_6, li_7, li_8, li_9, li_10, li_11, li_12, li_29, li_30, li_32, li_33, li_35, li_42, li_43, li_45, li_47, li_48, li_50, li_57, li_58, li_59, li_60, li_61, li_63, li_64, li_67, li_68, li_72, li_78, li_79, li_80, li_97, li_99, li_100, li_101, li_102, li_103, li_105, li_108, li_109, li_110, li_111, li_112, li_114, li_115, li_116, li_117, li_118, li_119, li_120, li_121, li_126, li_216, li_232, li_240, li_264, li_300, li_1000, li_1000000, li_2147483647, reduceIte, if_true, if_false, true_and, and_true, false_and, and_false, and_self, not_true_eq_false, not_false_eq_true, true_implies, false_implies, implies_true, forall_const, Bool.false_eq_true, el_l, el_r, Sum.inl.injEq, reduceCtorEq, forall_eq, forall_eq', z2]
    | false =>
      have hc : f_X2_coinsOf 1 (nI t) v ≤ nI 0 := hco.mpr hh
      obtain ⟨rp, rf⟩ := T_remove_T v s5' ht n7
      have hfg := L_forget (t := t) (n := nc) ht4 n6 nc 0 5000 (cRmT v nt t) (by omega) (by omega) (by rw [cRmT_ne _ (by omega)]; exact s3)
      have hfp : p_X2_forgetTreaty 1 (nI t) (cRmT v nt t) := hfg.1
      have hff : f_X2_forgetTreaty 1 (nI t) (cRmT v nt t) = cVoi v nt nc t := hfg.2
      refine ⟨?_, fun h => absurd (if_neg Bool.false_ne_true) h, fun _ => ⟨t, cVoi v nt nc t, rfl, ht, ?_, cVoi_Fr v n6, ?_⟩⟩
      · simp (disch := omega) only [p_X1_removeTreaty_57, p_X1_removeTreaty_49, p_X1_removeTreaty_18, p_X1_removeTreaty_0, p_X1_removeTreaty, P_X11_checkedIndex, F_X11_checkedIndex, Nat.reduceAdd, s5', hx, cp, hc, vi_n, rp, rf, hfp, li_0, li_1, li_2, li_3, li_4, li_5, li_6, li_7, li_8, li_9, li_10, li_11, li_12, li_29, li_30, li_32, li_33, li_35, li_42, li_43, li_45, li_47, li_48, li_50, li_57, li_58, li_59, li_60, li_61, li_63, li_64, li_67, li_68, li_72, li_78, li_79, li_80, li_97, li_99, li_100, li_101, li_102, li_103, li_105, li_108, li_109, li_110, li_111, li_112, li_114, li_115, li_116, li_117, li_118, li_119, li_120, li_121, li_126, li_216, li_232, li_240, li_264, li_300, li_1000, li_1000000, li_2147483647, reduceIte, if_true, if_false, true_and, and_true, false_and, and_false, and_self, not_true_eq_false, not_false_eq_true, true_implies, false_implies, implies_true, forall_const, Bool.false_eq_true, el_l, el_r, Sum.inl.injEq, reduceCtorEq, forall_eq, forall_eq']
      · simp (disch := omega) only [f_X1_removeTreaty_57, f_X1_removeTreaty_49, f_X1_removeTreaty_18, f_X1_removeTreaty_0, f_X1_removeTreaty, F_X11_checkedIndex, Nat.reduceAdd, s5', hx, hc, cl_n, rf, hff, b3, li_0, li_1, li_2, li_3, li_4, li_5, li_6, li_7, li_8, li_9, li_10, li_11, li_12, li_29, li_30, li_32, li_33, li_35, li_42, li_43, li_45, li_47, li_48, li_50, li_57, li_58, li_59, li_60, li_61, li_63, li_64, li_67, li_68, li_72, li_78, li_79, li_80, li_97, li_99, li_100, li_101, li_102, li_103, li_105, li_108, li_109, li_110, li_111, li_112, li_114, li_115, li_116, li_117, li_118, li_119, li_120, li_121, li_126, li_216, li_232, li_240, li_264, li_300, li_1000, li_1000000, li_2147483647, reduceIte, if_true, if_false, true_and, and_true, false_and, and_false, and_self, not_true_eq_false, not_false_eq_true, true_implies, false_implies, implies_true, forall_const, Bool.false_eq_true, el_l, el_r, Sum.inl.injEq, reduceCtorEq, forall_eq, forall_eq']
      obtain ⟨m1, m2, m3, m4, m5⟩ := mVoi_at w n7 ht n6
      have m30 : ∀ i, i < 12 → mVoi w nt nc t (72 + 12 * i) = w (72 + 12 * i) := fun i hi => m3 i 0 hi (by omega)
      have m50 : ∀ k, k + 1 < nt → mVoi w nt nc t (216 + 4 * k) = if k < t then w (216 + 4 * k) else w (216 + 4 * (k + 1)) := fun k hk => m5 k 0 hk (by omega)
      have hz : ∀ i, i < nc → prt w i t = 0 := fun i hi => by
        have a1 := h0.mp hh
        have a2 := sI_le (f := fun i => prt w i t) (n := nc) (i := i) (fun j hj => (wc.1 j hj).2.2.2.2.2.2.2.2.2.2.1 t ht4) hi
        have a3 := (wc.1 i hi).2.2.2.2.2.2.2.2.2.2.1 t ht4
        have a4 : prt w i t ≤ sI (fun i => prt w i t) nc := a2
        omega
      have t0 : (nI 0).toInt = 0 := tI (by omega)
      have mrow : ∀ i o, i < nc → o < 4 → mVoi w nt nc t (72 + 12 * i + (6 + o)) = if o < t then w (72 + 12 * i + (6 + o)) else if o < 3 then w (72 + 12 * i + (6 + (o + 1))) else nI 0 := fun i o hi ho => by
        rw [m4 i o hi ho]
        have c13 := (wc.1 i hi).2.2.2.2.2.2.2.2.2.2.2.2
        by_cases h1 : o < t
        · rw [if_pos h1, if_pos h1]
        · rw [if_neg h1, if_neg h1]
          by_cases h2 : o + 1 < nt
          · rw [if_pos h2, if_pos (by omega)]
          · rw [if_neg h2]
            by_cases h3 : o + 1 = nt
            · rw [if_pos h3]
              by_cases h4 : o < 3
              · rw [if_pos h4, c13 (o + 1) (by omega) (by omega)]
              · rw [if_neg h4]
            · rw [if_neg h3, c13 o ho (by omega)]
              by_cases h4 : o < 3
              · rw [if_pos h4, c13 (o + 1) (by omega) (by omega)]
              · rw [if_neg h4]
      have mprt : ∀ i o, i < nc → o < 4 → prt (mVoi w nt nc t) i o = if o < t then prt w i o else if o < 3 then prt w i (o + 1) else 0 := fun i o hi ho => by
        unfold prt
        rw [mrow i o hi ho]
        by_cases h1 : o < t
        · rw [if_pos h1, if_pos h1]
        · rw [if_neg h1, if_neg h1]
          by_cases h4 : o < 3
          · rw [if_pos h4, if_pos h4]
          · rw [if_neg h4, if_neg h4, t0]
      refine ⟨⟨?_, ?_, m2, ?_, n5, n6, by omega, n8⟩, ?_, ?_, ⟨?_, ?_⟩, ?_, ?_, ?_, ?_, ?_, ?_, ?_, ?_, ?_, ⟨?_, ?_⟩, ?_⟩
      · rw [m1 0 (by omega) (by omega)]; exact n1
      · rw [m1 1 (by omega) (by omega)]; exact n2
      · rw [m1 3 (by omega) (by omega)]; exact n4
      · unfold WFs at hs ⊢
        rw [m1 4 (by omega) (by omega), m1 5 (by omega) (by omega), m1 6 (by omega) (by omega)]
        omega
      · exact WFp_congr n5 (by omega) (by rw [m1 4 (by omega) (by omega)]; exact Int.le_refl _) (fun i _ _ => m1 i (by omega) (by omega)) wp
      · intro i hi
        obtain ⟨c1, c2, ⟨q, hq, c3⟩, c4, c5, c6, c7, c8, c9, c10, c11, c12, c13⟩ := wc.1 i hi
        unfold WFc1
        rw [m1 5 (by omega) (by omega), m1 6 (by omega) (by omega), m30 i (by omega), m3 i 1 (by omega) (by omega), m3 i 2 (by omega) (by omega), m3 i 3 (by omega) (by omega), m3 i 4 (by omega) (by omega), m3 i 5 (by omega) (by omega)]
        refine ⟨c1, c2, ⟨q, hq, by rw [m1 _ (by omega) (by omega)]; exact c3⟩, c4, c5, c6, c7, c8, c9, c10, fun o ho => ?_, ?_, fun o ho h2 => ?_⟩
        · rw [mprt i o hi ho]
          by_cases h1 : o < t
          · rw [if_pos h1]; exact c11 o ho
          · rw [if_neg h1]
            by_cases h4 : o < 3
            · rw [if_pos h4]; exact c11 (o + 1) (by omega)
            · rw [if_neg h4]; exact Int.le_refl _
        · rw [sI_congr (fun o ho => mprt i o hi ho)]
          have d0 := c11 0 (by omega)
          have d1 := c11 1 (by omega)
          have d2 := c11 2 (by omega)
          have d3 := c11 3 (by omega)
          have c12' : (0 : Int) + prt w i 0 + prt w i 1 + prt w i 2 + prt w i 3 ≤ (w (72 + 12 * i + 3)).toInt := c12
          show (0 : Int) + (if 0 < t then prt w i 0 else if 0 < 3 then prt w i (0 + 1) else 0) + (if 1 < t then prt w i 1 else if 1 < 3 then prt w i (1 + 1) else 0) + (if 2 < t then prt w i 2 else if 2 < 3 then prt w i (2 + 1) else 0) + (if 3 < t then prt w i 3 else if 3 < 3 then prt w i (3 + 1) else 0) ≤ _
          have hz' := hz i hi
          rcases (by omega : t = 0 ∨ t = 1 ∨ t = 2 ∨ t = 3) with rfl | rfl | rfl | rfl <;> simp only [Nat.reduceLT, Nat.reduceAdd, if_true, if_false, Nat.lt_irrefl, Nat.not_lt_zero] <;> omega
        · rw [mrow i o hi ho]
          by_cases h1 : o < t
          · omega
          · rw [if_neg h1]
            by_cases h4 : o < 3
            · rw [if_pos h4]; exact c13 (o + 1) (by omega) (by omega)
            · rw [if_neg h4]
      · intro j i hj hi
        rw [m30 j (by omega), m30 i (by omega)]
        exact wc.2 j i hj hi
      · intro k hk
        rw [m50 k (by omega), m5 k 1 (by omega) (by omega), m5 k 2 (by omega) (by omega)]
        by_cases h1 : k < t
        · simp only [if_pos h1]; exact wt k (by omega)
        · simp only [if_neg h1]; exact wt (k + 1) (by omega)
      · exact WFe_congr (by omega) (fun i _ _ => m1 i (by omega) (by omega)) we
      · exact WFo_congr n8 (fun i _ _ => m1 i (by omega) (by omega)) wo
      · have h31 : (cVoi v nt nc t).1 (1 + 30) = upd (v.1 31) 6 (nI (nt - 1)) := by
          rw [cVoi_T _ (by omega) n6]
          exact vRow_eq _ _ _
        unfold BRs
        rw [m1 4 (by omega) (by omega), m1 5 (by omega) (by omega), m1 6 (by omega) (by omega), m1 7 (by omega) (by omega), h31, cVoi_ne (j := 1 + 1) _ (by omega) n6, cVoi_ne (j := 1 + 10) _ (by omega) n6, cVoi_ne (j := 1 + 45) _ (by omega) n6, cVoi_ne (j := 1) _ (by omega) n6]
        exact ⟨s1, s2, s3, s4, upd_eq _ _ _, s6, s7, s8⟩
      · exact BRp_congr n5 (fun o _ _ => cVoi_ne _ (by omega) n6) (fun i _ _ => m1 i (by omega) (by omega)) bp
      · intro i hi
        have h1 := bc i hi
        rw [m30 i (by omega), m3 i 1 (by omega) (by omega), m3 i 2 (by omega) (by omega), m3 i 3 (by omega) (by omega), m3 i 4 (by omega) (by omega), m3 i 5 (by omega) (by omega), cVoi_ne (j := 1 + 11) _ (by omega) n6, cVoi_ne (j := 1 + 12) _ (by omega) n6, cVoi_ne (j := 1 + 13) _ (by omega) n6, cVoi_ne (j := 1 + 14) _ (by omega) n6, cVoi_ne (j := 1 + 15) _ (by omega) n6, cVoi_ne (j := 1 + 16) _ (by omega) n6]
        refine ⟨h1.1, h1.2.1, h1.2.2.1, h1.2.2.2.1, h1.2.2.2.2.1, h1.2.2.2.2.2.1, fun o ho => ?_⟩
        have hr : ∀ o, o < 4 → v.1 (19 + i) o = w (72 + 12 * i + (6 + o)) := h1.2.2.2.2.2.2
        rw [show 1 + 18 + i = 19 + i from rfl, cVoi_row _ hi n6, mrow i o hi ho]
        by_cases h3 : o = 3
        · subst h3
          rw [upd_eq, if_neg (show ¬ 3 < t by omega), if_neg (Nat.lt_irrefl 3)]
        · rw [upd_ne h3, gap_i _ (by omega)]
          by_cases h2 : o < t
          · rw [if_pos h2, if_pos h2, hr o ho]
          · rw [if_neg h2, if_neg h2, if_pos (show o < 3 by omega), hr (o + 1) (by omega)]
      · intro k hk
        have hg : ∀ j, j = 32 ∨ j = 33 ∨ j = 34 → (cVoi v nt nc t).1 j k = if k < t then v.1 j k else v.1 j (k + 1) := fun j hj => by
          rw [cVoi_T _ (by omega) n6, ← gap_i (r := v.1 j) (n := 3) (by omega)]
          unfold cRmT
          rcases hj with rfl | rfl | rfl <;> simp (disch := omega) only [vRow_eq, vRow_ne]
        rw [hg (1 + 31) (by omega), hg (1 + 32) (by omega), hg (1 + 33) (by omega), m50 k (by omega), m5 k 1 (by omega) (by omega), m5 k 2 (by omega) (by omega)]
        by_cases h1 : k < t
        · simp only [if_pos h1]; exact bt k (by omega)
        · simp only [if_neg h1]; exact bt (k + 1) (by omega)
      · exact BRe_congr (fun o _ _ => cVoi_ne _ (by omega) n6) (fun i _ _ => m1 i (by omega) (by omega)) be
      · exact BRo_congr n8 (fun o _ _ => cVoi_ne _ (by omega) n6) (fun i _ _ => m1 i (by omega) (by omega)) bo
      · rw [cVoi_ne (j := 1) _ (by omega) n6]
        exact bk.1
      · intro k hk
        have hg : (cVoi v nt nc t).1 (1 + 34) k = if k < t then v.1 35 k else v.1 35 (k + 1) := by
          rw [cVoi_T _ (by omega) n6, ← gap_i (r := v.1 35) (n := 3) (by omega)]
          unfold cRmT
          simp (disch := omega) only [Nat.reduceAdd, vRow_eq, vRow_ne]
        rw [hg, m5 k 2 (by omega) (by omega), sI_congr (fun i hi => mprt i k hi (by omega))]
        by_cases h1 : k < t
        · simp only [if_pos h1]
          exact bk.2 k (by omega)
        · simp only [if_neg h1, if_pos (show k < 3 by omega)]
          exact bk.2 (k + 1) (by omega)
      · exact chars_congr (cVoi_ne _ (by omega) n6) bx
