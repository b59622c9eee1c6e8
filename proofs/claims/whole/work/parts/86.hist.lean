/-! the ring of earlier states beside the reference's history -/
theorem BR_wcongr {B : Nat} {v : gV} {b : Nat} {w w' : Nat → Int32} {np nc nt no : Nat} (hw : ∀ i, i < 300 → w' i = w i) (h : BR B v b w np nc nt no) : BR B v b w' np nc nt no := by
  obtain ⟨⟨n1, n2, n3, n4, n5, n6, n7, n8⟩, hs, wp, wc, wt, we, wo, bs, bp, bc, bt, be, bo, bk, bx⟩ := h
  refine ⟨⟨by rw [hw 0 (by omega)]; exact n1, by rw [hw 1 (by omega)]; exact n2, by rw [hw 2 (by omega)]; exact n3, by rw [hw 3 (by omega)]; exact n4, n5, n6, n7, n8⟩, ?_, WFp_congr n5 (Nat.le_refl _) (by rw [hw 4 (by omega)]; exact Int.le_refl _) (fun i _ _ => hw i (by omega)) wp, WFc_congr n6 (by rw [hw 5 (by omega)]; exact Int.le_refl _) (by rw [hw 6 (by omega)]; exact Int.le_refl _) (fun _ q _ hq _ => ⟨q, hq, hw _ (by omega)⟩) (fun i _ _ => hw i (by omega)) wc, WFt_congr n7 (fun i _ _ => hw i (by omega)) wt, WFe_congr (Nat.le_refl _) (fun i _ _ => hw i (by omega)) we, WFo_congr n8 (fun i _ _ => hw i (by omega)) wo, ?_, BRp_congr n5 (fun _ _ _ => rfl) (fun i _ _ => hw i (by omega)) bp, BRc_congr n6 (fun _ _ _ => rfl) (fun i _ _ => hw i (by omega)) bc, BRt_congr n7 (fun _ _ _ => rfl) (fun i _ _ => hw i (by omega)) bt, BRe_congr (fun _ _ _ => rfl) (fun i _ _ => hw i (by omega)) be, BRo_congr n8 (fun _ _ _ => rfl) (fun i _ _ => hw i (by omega)) bo, BRk_congr n6 n7 rfl rfl (fun i _ _ => hw i (by omega)) bk, bx⟩
  · unfold WFs
    rw [hw 4 (by omega), hw 5 (by omega), hw 6 (by omega)]
    exact hs
  · unfold BRs
    rw [hw 4 (by omega), hw 5 (by omega), hw 6 (by omega), hw 7 (by omega)]
    exact bs
/-- some numbers of policies, claims, treaties, offers -/
def BRx (B : Nat) (v : gV) (b : Nat) (w : Nat → Int32) : Prop := ∃ np nc nt no, BR B v b w np nc nt no
theorem BRx.mono {B B' : Nat} {v : gV} {b : Nat} {w : Nat → Int32} (hB : B ≤ B') : BRx B v b w → BRx B' v b w := fun ⟨a, c, d, e, h⟩ => ⟨a, c, d, e, h.mono hB⟩
theorem BRx.copy {B : Nat} {u v' : gV} {b b2 : Nat} {w : Nat → Int32} (hv : ∀ o k, rel o k → v'.1 (b + o) k = u.1 (b2 + o) k) : BRx B u b2 w → BRx B v' b w := fun ⟨a, c, d, e, h⟩ => ⟨a, c, d, e, BR_copy hv h⟩
theorem BRx.w {B : Nat} {v : gV} {b : Nat} {w w' : Nat → Int32} (hw : ∀ i, i < 300 → w' i = w i) : BRx B v b w → BRx B v b w' := fun ⟨a, c, d, e, h⟩ => ⟨a, c, d, e, BR_wcongr hw h⟩
theorem BRx.same {B : Nat} {u v' : gV} {b : Nat} {w : Nat → Int32} (hv : ∀ j, b ≤ j → j < b + 50 → v'.1 j = u.1 j) : BRx B u b w → BRx B v' b w := fun h => h.copy fun o k hr => by rw [hv (b + o) (by omega) (by unfold rel at hr; omega)]
theorem BRx.chars {B : Nat} {v : gV} {b : Nat} {w : Nat → Int32} : BRx B v b w → chars v b := fun ⟨_, _, _, _, h⟩ => h.2.2.2.2.2.2.2.2.2.2.2.2.2.2
def JH (B : Nat) (v : gV) : Prop := ∃ o d, o < 9 ∧ d ≤ 8 ∧ v.1 101 1 = nI o ∧ v.1 101 2 = nI d ∧ v.1 559 7 = nI d ∧ ∀ i, i < d → BRx B v (103 + 50 * ((o + i) % 9)) (fun k => v.1 563 (300 * i + k))
theorem F_floorMod (v : gV) {m : Nat} (hm : m < 18) : f_J9_floorMod_7cf53 (nI m) (9 : Int32) v = nI (m % 9) := by
  have h : ∀ m, m < 18 → (if (0 : Int32) ≤ (nI m ^^^ 9) then nI m - nI m / 9 * 9 else (if nI m - nI m / 9 * 9 = 0 then nI m - nI m / 9 * 9 else (nI m - nI m / 9 * 9) + 9)) = nI (m % 9) := by decide +kernel
  rw [← h m hm]
  simp only [f_J9_floorMod_7cf53_18, f_J9_floorMod_7cf53_0, f_J9_floorMod_7cf53]
theorem P_floorMod (x : Int32) (v : gV) : p_J9_floorMod_7cf53 x (9 : Int32) v := by
  have h : ¬ (9 : Int32) = 0 := by decide +kernel
  simp only [p_J9_floorMod_7cf53_18, p_J9_floorMod_7cf53_0, p_J9_floorMod_7cf53, h, not_false_eq_true, implies_true, and_self]
theorem K_spare (v : gV) {o d : Nat} (ho : o < 9) (hd : d ≤ 8) (h1 : v.1 101 1 = nI o) (h2 : v.1 101 2 = nI d) : p_X3_spare v ∧ f_X3_spare v = 103 + 50 * ((o + d) % 9) := by
  have hf := F_floorMod v (m := o + d) (by omega)
  have hp := P_floorMod (nI (o + d)) v
  constructor
  · simp only [p_X3_spare_0, p_X3_spare, h1, h2, nI_add, hp, hf, true_and, and_true]
    exact vi_n (by omega) (by omega)
  · simp only [f_X3_spare_0, f_X3_spare, h1, h2, nI_add, hf]
    rw [cl_n (by omega)]
theorem K_prepare {B : Nat} (v : gV) {o d : Nat} (ho : o < 9) (hd : d ≤ 8) (h1 : v.1 101 1 = nI o) (h2 : v.1 101 2 = nI d) (hx : chars v 1) : p_X3_prepare 1 v ∧ (f_X3_prepare 1 v).2 = v.2 ∧ (∀ j, j < 103 + 50 * ((o + d) % 9) ∨ 103 + 50 * ((o + d) % 9) + 50 ≤ j → (f_X3_prepare 1 v).1 j = v.1 j) ∧ ∀ q k, rel q k → (f_X3_prepare 1 v).1 (103 + 50 * ((o + d) % 9) + q) k = v.1 (1 + q) k := by
  obtain ⟨sp, sf⟩ := K_spare v ho hd h1 h2
  have hc := K_copyFrom v (b := 103 + 50 * ((o + d) % 9)) (b2 := 1) (by omega) hx
  simp only [f_X3_prepare_8, p_X3_prepare_8, f_X3_prepare_0, p_X3_prepare_0, f_X3_prepare, p_X3_prepare, sp, sf, and_true, true_and]
  exact hc
theorem K_bringBack (v : gV) {o d : Nat} (ho : o < 9) (hd : d ≤ 8) (h1 : v.1 101 1 = nI o) (h2 : v.1 101 2 = nI d) (hx : chars v (103 + 50 * ((o + d) % 9))) : p_X3_bringBack 1 v ∧ (f_X3_bringBack 1 v).2 = v.2 ∧ (∀ j, j < 1 ∨ 51 ≤ j → (f_X3_bringBack 1 v).1 j = v.1 j) ∧ ∀ q k, rel q k → (f_X3_bringBack 1 v).1 (1 + q) k = v.1 (103 + 50 * ((o + d) % 9) + q) k := by
  obtain ⟨sp, sf⟩ := K_spare v ho hd h1 h2
  have hc := K_copyFrom v (b := 1) (b2 := 103 + 50 * ((o + d) % 9)) (by omega) hx
  simp only [f_X3_bringBack_8, p_X3_bringBack_8, f_X3_bringBack_0, p_X3_bringBack_0, f_X3_bringBack, p_X3_bringBack, sp, sf, and_true, true_and]
  exact hc
theorem K_keep (v : gV) {o d : Nat} (ho : o < 9) (hd : d ≤ 8) (h1 : v.1 101 1 = nI o) (h2 : v.1 101 2 = nI d) : p_X3_keep v ∧ f_X3_keep v = if d = 8 then vRow v 101 (upd (v.1 101) 1 (nI ((o + 1) % 9))) else vRow v 101 (upd (v.1 101) 2 (nI (d + 1))) := by
  have hf := F_floorMod v (m := o + 1) (by omega)
  have hp := P_floorMod (nI (o + 1)) v
  by_cases h : d = 8
  · subst h
    have hc : nI 8 ≤ nI 8 := nI_le (by omega) (by omega)
    rw [if_pos rfl]
    constructor
    · simp only [p_X3_keep_37, p_X3_keep_19, p_X3_keep_0, p_X3_keep, h1, h2, li_1, li_8, nI_add, hp, hc, implies_true, and_self]
    · simp only [f_X3_keep_37, f_X3_keep_19, f_X3_keep_0, f_X3_keep, h1, h2, li_1, li_8, nI_add, hf, hc, if_true, vM_rw]
  · have hc : ¬ nI 8 ≤ nI d := nI_ge (by omega) (by omega)
    rw [if_neg h]
    constructor
    · simp only [p_X3_keep_37, p_X3_keep_19, p_X3_keep_0, p_X3_keep, h1, h2, li_1, li_8, nI_add, hp, hc, implies_true, and_self]
    · simp only [f_X3_keep_37, f_X3_keep_19, f_X3_keep_0, f_X3_keep, h1, h2, li_1, li_8, nI_add, hc, if_false, vM_rw]
/-! the reference's copies -/
/-- 300 ints of a row copied into another -/
def cp3 (f g : Nat → Int32) (a c : Nat) : Nat → Int32 := fun i => if c ≤ i ∧ i < c + 300 then f (a + (i - c)) else g i
theorem cp3_in {f g : Nat → Int32} {a c i : Nat} (h : i < 300) : cp3 f g a c (c + i) = f (a + i) := by
  unfold cp3
  rw [if_pos (by omega), Nat.add_sub_cancel_left]
theorem cp3_out {f g : Nat → Int32} {a c i : Nat} (h : i < c ∨ c + 300 ≤ i) : cp3 f g a c i = g i := if_neg (by omega)
theorem L_copy {j0 N0 j2 N2 a c : Nat} (hjj : ¬ j0 = j2 ∨ c + 300 ≤ a) (ha : a + 300 ≤ N0) (hc : c + 300 ≤ N2) (h0 : N0 < 4000) (h2 : N2 < 4000) : ∀ (m i fuel : Nat) (v : gV), i + m = 300 → m < fuel → p_X12_copy_3 j0 N0 j2 N2 fuel (nI a) (nI c) (nI i) v ∧ f_X12_copy_3 j0 N0 j2 N2 fuel (nI a) (nI c) (nI i) v = vRow v j2 (fun k => if c + i ≤ k ∧ k < c + 300 then v.1 j0 (a + (k - c)) else v.1 j2 k) := by
  intro m
  induction m with
  | zero =>
    intro i fuel v hk hf
    obtain ⟨f, rfl⟩ := fuel_s hf
    have hle : (300 : Int32) ≤ nI i := nI_le (a := 300) (by omega) (by omega)
    have e : (fun k => if c + i ≤ k ∧ k < c + 300 then v.1 j0 (a + (k - c)) else v.1 j2 k) = v.1 j2 := by
      funext k
      exact if_neg (by omega)
    rw [p_X12_copy_3, f_X12_copy_3, if_pos hle, e, vRow_self]
    exact ⟨⟨fun _ => trivial, fun h => absurd hle h⟩, rfl⟩
  | succ m ih =>
    intro i fuel v hk hf
    obtain ⟨f, rfl⟩ := fuel_s hf
    have hle : ¬ (300 : Int32) ≤ nI i := nI_ge (b := 300) (by omega) (by omega)
    have hi := ih (i + 1) f (vM v j2 (c + i) (v.1 j0 (a + i))) (by omega) (by omega)
    have e : vRow (vM v j2 (c + i) (v.1 j0 (a + i))) j2 (fun k => if c + (i + 1) ≤ k ∧ k < c + 300 then (vM v j2 (c + i) (v.1 j0 (a + i))).1 j0 (a + (k - c)) else (vM v j2 (c + i) (v.1 j0 (a + i))).1 j2 k) = vRow v j2 (fun k => if c + i ≤ k ∧ k < c + 300 then v.1 j0 (a + (k - c)) else v.1 j2 k) := by
      rw [vM_rw, vRow_row, vRow_eq]
      refine congrArg (vRow v j2) (funext fun k => ?_)
      by_cases h1 : k = c + i
      · subst h1
        rw [if_neg (show ¬ (c + (i + 1) ≤ c + i ∧ c + i < c + 300) by omega), upd_eq, if_pos (show c + i ≤ c + i ∧ c + i < c + 300 by omega), Nat.add_sub_cancel_left]
      · rw [upd_ne h1]
        by_cases h3 : c + (i + 1) ≤ k ∧ k < c + 300
        · rw [if_pos h3, if_pos (show c + i ≤ k ∧ k < c + 300 by omega)]
          by_cases hj : j0 = j2
          · subst hj
            rw [vRow_eq, upd_ne (by omega)]
          · rw [vRow_ne _ _ hj]
        · rw [if_neg h3, if_neg (show ¬ (c + i ≤ k ∧ k < c + 300) by omega)]
    rw [e] at hi
    rw [p_X12_copy_3, f_X12_copy_3, if_neg hle]
    simp (disch := omega) only [f_X12_copy_23, p_X12_copy_23, nI_1, nI_add, cl_n, hle, not_false_eq_true, false_implies, true_implies, true_and]
    exact ⟨⟨vi_n (by omega) (by omega), vi_n (by omega) (by omega), hi.1⟩, hi.2⟩
theorem F_copy {j0 N0 j2 N2 a c : Nat} (v : gV) (hjj : ¬ j0 = j2 ∨ c + 300 ≤ a) (ha : a + 300 ≤ N0) (hc : c + 300 ≤ N2) (h0 : N0 < 4000) (h2 : N2 < 4000) : f_X12_copy j0 N0 j2 N2 (nI a) (nI c) v = vRow v j2 (cp3 (v.1 j0) (v.1 j2) a c) := (L_copy hjj ha hc h0 h2 300 0 5000 v (by omega) (by omega)).2
theorem P_copy {j0 N0 j2 N2 a c : Nat} (v : gV) (hjj : ¬ j0 = j2 ∨ c + 300 ≤ a) (ha : a + 300 ≤ N0) (hc : c + 300 ≤ N2) (h0 : N0 < 4000) (h2 : N2 < 4000) : p_X12_copy j0 N0 j2 N2 (nI a) (nI c) v := (L_copy hjj ha hc h0 h2 300 0 5000 v (by omega) (by omega)).1
theorem K_begin (v : gV) : p_X12_begin v ∧ f_X12_begin v = vRow (vRow v 559 (upd (v.1 559) 6 (nI 0))) 561 (cp3 (v.1 560) (v.1 561) 0 0) := by
  constructor
  · simp only [p_X12_begin_18, p_X12_begin_5, p_X12_begin_0, p_X12_begin, li_0]
    exact ⟨P_copy _ (by omega) (by omega) (by omega) (by omega) (by omega), trivial⟩
  · simp only [f_X12_begin_18, f_X12_begin_5, f_X12_begin_0, f_X12_begin, li_0]
    rw [F_copy _ (by omega) (by omega) (by omega) (by omega) (by omega), vM_rw, vRow_ne _ _ (by omega), vRow_ne _ _ (by omega)]
/-- the history one place down -/
theorem L_commit (x : Int32) (hd : ∀ u : gV, u.1 559 7 = nI 8 → p_X12_commit_56 x (vM u 559 7 (u.1 559 7 - (1 : Int32)))) : ∀ (m k fuel : Nat) (v : gV), k + m = 8 → 1 ≤ k → m < fuel → v.1 559 7 = nI 8 → p_X12_commit_11 fuel x (nI k) v ∧ f_X12_commit_11 fuel x (nI k) v = f_X12_commit_56 x (vM (vRow v 563 (fun i => if 300 * (k - 1) ≤ i ∧ i < 2100 then v.1 563 (i + 300) else v.1 563 i)) 559 7 (nI 7)) := by
  intro m
  induction m with
  | zero =>
    intro k fuel v hk h1 hf h7
    obtain ⟨f, rfl⟩ := fuel_s hf
    have hle : (8 : Int32) ≤ nI k := nI_le (a := 8) (by omega) (by omega)
    have e : (fun i => if 300 * (k - 1) ≤ i ∧ i < 2100 then v.1 563 (i + 300) else v.1 563 i) = v.1 563 := by
      funext i
      exact if_neg (by omega)
    have h8 : v.1 559 7 - (1 : Int32) = nI 7 := by
      rw [h7]
      decide +kernel
    have hd := hd v h7
    rw [h8] at hd
    rw [p_X12_commit_11, f_X12_commit_11, if_pos hle, e, vRow_self, h8]
    exact ⟨⟨fun _ => hd, fun h => absurd hle h⟩, rfl⟩
  | succ m ih =>
    intro k fuel v hk h1 hf h7
    obtain ⟨f, rfl⟩ := fuel_s hf
    have hle : ¬ (8 : Int32) ≤ nI k := nI_ge (b := 8) (by omega) (by omega)
    have e1 : (300 : Int32) * nI k = nI (300 * k) := nI_mul 300 k
    have e2 : (300 : Int32) * (nI k - (1 : Int32)) = nI (300 * (k - 1)) := by
      rw [li_1, sub_n h1]
      exact nI_mul 300 (k - 1)
    have hF := F_copy (j0 := 563) (N0 := 2400) (j2 := 563) (N2 := 2400) (a := 300 * k) (c := 300 * (k - 1)) v (by omega) (by omega) (by omega) (by omega) (by omega)
    have hP := P_copy (j0 := 563) (N0 := 2400) (j2 := 563) (N2 := 2400) (a := 300 * k) (c := 300 * (k - 1)) v (by omega) (by omega) (by omega) (by omega) (by omega)
    have hi := ih (k + 1) f (vRow v 563 (cp3 (v.1 563) (v.1 563) (300 * k) (300 * (k - 1)))) (by omega) (by omega) (by omega) (by rw [vRow_ne _ _ (by omega)]; exact h7)
    have e3 : vRow (vRow v 563 (cp3 (v.1 563) (v.1 563) (300 * k) (300 * (k - 1)))) 563 (fun i => if 300 * (k + 1 - 1) ≤ i ∧ i < 2100 then (vRow v 563 (cp3 (v.1 563) (v.1 563) (300 * k) (300 * (k - 1)))).1 563 (i + 300) else (vRow v 563 (cp3 (v.1 563) (v.1 563) (300 * k) (300 * (k - 1)))).1 563 i) = vRow v 563 (fun i => if 300 * (k - 1) ≤ i ∧ i < 2100 then v.1 563 (i + 300) else v.1 563 i) := by
      rw [vRow_row, vRow_eq]
      refine congrArg (vRow v 563) (funext fun i => ?_)
      by_cases a1 : 300 * (k + 1 - 1) ≤ i ∧ i < 2100
      · rw [if_pos a1, cp3_out (by omega), if_pos (show 300 * (k - 1) ≤ i ∧ i < 2100 by omega)]
      · rw [if_neg a1]
        unfold cp3
        by_cases a2 : 300 * (k - 1) ≤ i ∧ i < 300 * (k - 1) + 300
        · rw [if_pos a2, if_pos (show 300 * (k - 1) ≤ i ∧ i < 2100 by omega), show 300 * k + (i - 300 * (k - 1)) = i + 300 by omega]
        · rw [if_neg a2, if_neg (show ¬ (300 * (k - 1) ≤ i ∧ i < 2100) by omega)]
    rw [e3] at hi
    rw [p_X12_commit_11, f_X12_commit_11, if_neg hle, e1, e2, hF]
    simp only [f_X12_commit_40, p_X12_commit_40, nI_1, hle, hP, not_false_eq_true, false_implies, true_implies, true_and]
    exact hi
/-- the history behind a change: P is what was before it -/
def his (H P : Nat → Int32) (d : Nat) : Nat → Int32 := if d = 8 then cp3 P (fun i => if i < 2100 then H (i + 300) else H i) 0 2100 else cp3 P H 0 (300 * d)
theorem K_commit56 (x : Int32) (v : gV) {d : Nat} (hd : d ≤ 7) (h7 : v.1 559 7 = nI d) : p_X12_commit_56 x v ∧ f_X12_commit_56 x v = (x, vRow (vRow v 563 (cp3 (v.1 561) (v.1 563) 0 (300 * d))) 559 (upd (v.1 559) 7 (nI (d + 1)))) := by
  have e1 : (300 : Int32) * nI d = nI (300 * d) := nI_mul 300 d
  have hF := F_copy (j0 := 561) (N0 := 300) (j2 := 563) (N2 := 2400) (a := 0) (c := 300 * d) v (by omega) (by omega) (by omega) (by omega) (by omega)
  have hP := P_copy (j0 := 561) (N0 := 300) (j2 := 563) (N2 := 2400) (a := 0) (c := 300 * d) v (by omega) (by omega) (by omega) (by omega) (by omega)
  constructor
  · simp only [p_X12_commit_86, p_X12_commit_76, p_X12_commit_56, p_X12_commit_40, p_X12_commit_0, p_X12_commit, h7, e1, li_0, hP, and_self]
  · simp only [f_X12_commit_56, f_X12_commit_76, f_X12_commit_86, h7, e1, li_0, hF]
    rw [vM_rw, vRow_ne _ _ (by omega), h7, li_1, nI_add]
theorem K_commit (x : Int32) (v : gV) {d : Nat} (hd : d ≤ 8) (h7 : v.1 559 7 = nI d) : p_X12_commit x v ∧ f_X12_commit x v = (x, vRow (vRow v 563 (his (v.1 563) (v.1 561) d)) 559 (upd (v.1 559) 7 (nI (if d = 8 then 8 else d + 1)))) := by
  unfold his
  by_cases h8 : d = 8
  · subst h8
    have e8 : v.1 559 7 = (8 : Int32) := h7
    have h := L_commit x (fun u hu => (K_commit56 x _ (d := 7) (by omega) (by rw [vM_rw, vRow_eq, upd_eq, hu]; decide +kernel)).1) 7 1 5000 v (by omega) (by omega) (by omega) h7
    have h2 := K_commit56 x (vM (vRow v 563 (fun i => if 300 * (1 - 1) ≤ i ∧ i < 2100 then v.1 563 (i + 300) else v.1 563 i)) 559 7 (nI 7)) (d := 7) (by omega) (by rw [vM_rw, vRow_eq, upd_eq])
    rw [if_pos rfl, if_pos rfl]
    have e9 : (fun i => if 300 * (1 - 1) ≤ i ∧ i < 2100 then v.1 563 (i + 300) else v.1 563 i) = fun i => if i < 2100 then v.1 563 (i + 300) else v.1 563 i := by
      funext i
      by_cases hi : i < 2100
      · rw [if_pos (by omega), if_pos hi]
      · rw [if_neg (by omega), if_neg hi]
    rw [e9] at h h2
    constructor
    · have hp : p_X12_commit x v = p_X12_commit_0 x v := rfl
      rw [hp, p_X12_commit_0]
      exact ⟨fun _ => h.1, fun h => absurd e8 h⟩
    · have hp : f_X12_commit x v = f_X12_commit_0 x v := rfl
      rw [hp, f_X12_commit_0, if_pos e8]
      refine h.2.trans (h2.2.trans ?_)
      rw [vM_rw]
      apply Prod.ext
      · rfl
      · apply Prod.ext
        · funext j
          simp (disch := omega) only [vRow_at]
          by_cases h1 : j = 559
          · subst h1
            simp only [if_true, reduceIte, Nat.reduceEqDiff]
            funext k
            rw [upd_at, upd_at, upd_at]
            by_cases hk : k = 7
            · rw [if_pos hk, if_pos hk]
            · rw [if_neg hk, if_neg hk, if_neg hk]
          · by_cases h2 : j = 563
            · subst h2
              simp only [if_true, reduceIte, Nat.reduceEqDiff, if_false]
            · simp only [h1, h2, if_false]
        · rfl
  · have e8 : ¬ v.1 559 7 = (8 : Int32) := by
      rw [h7]
      show ¬ nI d = nI 8
      rw [eq_n (by omega) (by omega)]
      exact h8
    have h2 := K_commit56 x v (d := d) (by omega) h7
    rw [if_neg h8, if_neg h8]
    constructor
    · have hp : p_X12_commit x v = p_X12_commit_0 x v := rfl
      rw [hp, p_X12_commit_0]
      exact ⟨fun h => absurd h e8, fun _ => h2.1⟩
    · have hp : f_X12_commit x v = f_X12_commit_0 x v := rfl
      rw [hp, f_X12_commit_0, if_neg e8]
      exact h2.2
