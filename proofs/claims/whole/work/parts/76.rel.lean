/-! what the class' book at b holds beside a row w of the reference; bounds: B is how many commands have been run -/
def sI (f : Nat → Int) : Nat → Int
  | 0 => 0
  | n + 1 => sI f n + f n
theorem sI_congr {f g : Nat → Int} : ∀ {n : Nat}, (∀ i, i < n → f i = g i) → sI f n = sI g n := by
  intro n
  induction n with
  | zero => intro _; rfl
  | succ n ih =>
    intro h
    show sI f n + f n = sI g n + g n
    rw [ih fun i hi => h i (by omega), h n (by omega)]
theorem sI_nn {f : Nat → Int} : ∀ {n : Nat}, (∀ i, i < n → 0 ≤ f i) → 0 ≤ sI f n := by
  intro n
  induction n with
  | zero => intro _; exact Int.le_refl 0
  | succ n ih =>
    intro h
    have h1 := ih fun i hi => h i (by omega)
    have h2 := h n (by omega)
    show 0 ≤ sI f n + f n
    omega
theorem sI_le {f : Nat → Int} : ∀ {n i : Nat}, (∀ i, i < n → 0 ≤ f i) → i < n → f i ≤ sI f n := by
  intro n
  induction n with
  | zero => intro i _ h; omega
  | succ n ih =>
    intro i h hi
    show f i ≤ sI f n + f n
    have h2 := h n (by omega)
    have h3 := sI_nn (n := n) fun i hi => h i (by omega)
    by_cases e : i = n
    · subst e
      omega
    · have h1 := ih (i := i) (fun i hi => h i (by omega)) (by omega)
      omega
theorem sI_ub {f : Nat → Int} {c : Int} : ∀ {n : Nat}, (∀ i, i < n → f i ≤ c) → sI f n ≤ n * c := by
  intro n
  induction n with
  | zero => intro _; show (0 : Int) ≤ (0 : Nat) * c; omega
  | succ n ih =>
    intro h
    have h1 := ih fun i hi => h i (by omega)
    have h2 := h n (by omega)
    show sI f n + f n ≤ ((n + 1 : Nat) : Int) * c
    have h3 : ((n + 1 : Nat) : Int) * c = (n : Int) * c + c := by
      rw [Int.natCast_add, Int.add_mul]
      omega
    omega
/-- a row taken out -/
theorem sI_rm {f : Nat → Int} {p : Nat} : ∀ {n : Nat}, p ≤ n → sI (fun i => if i < p then f i else f (i + 1)) n = sI f (n + 1) - f p := by
  intro n
  induction n with
  | zero =>
    intro h
    have : p = 0 := by omega
    subst this
    show (0 : Int) = 0 + f 0 - f 0
    omega
  | succ n ih =>
    intro h
    show sI (fun i => if i < p then f i else f (i + 1)) n + (if n < p then f n else f (n + 1)) = sI f (n + 1) + f (n + 1) - f p
    by_cases e : p ≤ n
    · rw [ih e, if_neg (by omega)]
      omega
    · have : p = n + 1 := by omega
      subst this
      rw [if_pos (by omega), sI_congr (g := f) fun i hi => if_pos (by omega)]
      show sI f n + f n = sI f n + f n + f (n + 1) - f (n + 1)
      omega
def Wn (w : Nat → Int32) (np nc nt no : Nat) : Prop := w 0 = nI np ∧ w 1 = nI nc ∧ w 2 = nI nt ∧ w 3 = nI no ∧ np ≤ 8 ∧ nc ≤ 12 ∧ nt ≤ 4 ∧ no ≤ 8
def WFs (B : Nat) (w : Nat → Int32) : Prop := 0 ≤ (w 4).toInt ∧ (w 4).toInt ≤ B ∧ 0 ≤ (w 5).toInt ∧ (w 5).toInt ≤ B ∧ 0 ≤ (w 6).toInt ∧ (w 6).toInt ≤ 60 * B
def WFp1 (B : Nat) (w : Nat → Int32) (k : Nat) : Prop := 0 ≤ (w (8 + 8 * k)).toInt ∧ (w (8 + 8 * k)).toInt < (w 4).toInt ∧ 1 ≤ (w (8 + 8 * k + 1)).toInt ∧ (w (8 + 8 * k + 1)).toInt ≤ 30 ∧ 0 ≤ (w (8 + 8 * k + 2)).toInt ∧ (w (8 + 8 * k + 2)).toInt ≤ 8 ∧ 1 ≤ (w (8 + 8 * k + 3)).toInt ∧ (w (8 + 8 * k + 3)).toInt ≤ 60 ∧ 0 ≤ (w (8 + 8 * k + 4)).toInt ∧ (w (8 + 8 * k + 4)).toInt ≤ 60 * B ∧ 1 ≤ (w (8 + 8 * k + 5)).toInt ∧ (w (8 + 8 * k + 5)).toInt ≤ 181 ∧ -99 * (B : Int) ≤ (w (8 + 8 * k + 6)).toInt ∧ (w (8 + 8 * k + 6)).toInt ≤ 99 * B
def WFp (B : Nat) (w : Nat → Int32) (np : Nat) : Prop := (∀ k, k < np → WFp1 B w k) ∧ ∀ j k, j < k → k < np → (w (8 + 8 * j)).toInt < (w (8 + 8 * k)).toInt
def prt (w : Nat → Int32) (k o : Nat) : Int := (w (72 + 12 * k + (6 + o))).toInt
def WFc1 (w : Nat → Int32) (np nt k : Nat) : Prop := 0 ≤ (w (72 + 12 * k)).toInt ∧ (w (72 + 12 * k)).toInt < (w 5).toInt ∧ (∃ q, q < np ∧ w (8 + 8 * q) = w (72 + 12 * k + 1)) ∧ isC (w (72 + 12 * k + 2)) = true ∧ 1 ≤ (w (72 + 12 * k + 3)).toInt ∧ (w (72 + 12 * k + 3)).toInt ≤ 99 ∧ 0 ≤ (w (72 + 12 * k + 4)).toInt ∧ (w (72 + 12 * k + 4)).toInt ≤ (w (72 + 12 * k + 3)).toInt ∧ 0 ≤ (w (72 + 12 * k + 5)).toInt ∧ (w (72 + 12 * k + 5)).toInt ≤ (w 6).toInt ∧ (∀ o, o < 4 → 0 ≤ prt w k o) ∧ sI (prt w k) 4 ≤ (w (72 + 12 * k + 3)).toInt ∧ ∀ o, o < 4 → nt ≤ o → w (72 + 12 * k + (6 + o)) = nI 0
def WFc (w : Nat → Int32) (np nc nt : Nat) : Prop := (∀ k, k < nc → WFc1 w np nt k) ∧ ∀ j k, j < k → k < nc → (w (72 + 12 * j)).toInt < (w (72 + 12 * k)).toInt
def WFt (w : Nat → Int32) (nt : Nat) : Prop := ∀ k, k < nt → 0 ≤ (w (216 + 4 * k)).toInt ∧ (w (216 + 4 * k)).toInt ≤ 29 ∧ 1 ≤ (w (216 + 4 * k + 1)).toInt ∧ (w (216 + 4 * k + 1)).toInt ≤ 30 ∧ 0 ≤ (w (216 + 4 * k + 2)).toInt
def WFe (B : Nat) (w : Nat → Int32) : Prop := ∀ p d, p < 6 → d < 6 → 0 ≤ (w (264 + 6 * p + d)).toInt ∧ (w (264 + 6 * p + d)).toInt ≤ 99 * B
def WFo (w : Nat → Int32) (no : Nat) : Prop := ∀ k, k < no → 0 ≤ (w (232 + 4 * k)).toInt ∧ (w (232 + 4 * k)).toInt ≤ (w (232 + 4 * k + 1)).toInt ∧ (w (232 + 4 * k + 1)).toInt ≤ 99 ∧ 1 ≤ (w (232 + 4 * k + 2)).toInt ∧ (w (232 + 4 * k + 2)).toInt ≤ 50
/-- the book at b beside the row w -/
def BRs (v : gV) (b : Nat) (w : Nat → Int32) (np nc nt no : Nat) : Prop := v.1 (b + 1) 1 = nI np ∧ v.1 (b + 1) 2 = w 4 ∧ v.1 (b + 10) 1 = nI nc ∧ v.1 (b + 10) 2 = w 5 ∧ v.1 (b + 30) 6 = nI nt ∧ v.1 (b + 45) 4 = nI no ∧ v.1 b 5 = w 6 ∧ v.1 b 6 = w 7
def BRp (v : gV) (b : Nat) (w : Nat → Int32) (np : Nat) : Prop := ∀ k, k < np → v.1 (b + 2) k = w (8 + 8 * k) ∧ v.1 (b + 3) k = w (8 + 8 * k + 1) ∧ v.1 (b + 4) k = w (8 + 8 * k + 2) ∧ v.1 (b + 5) k = w (8 + 8 * k + 3) ∧ v.1 (b + 6) k = w (8 + 8 * k + 4) ∧ v.1 (b + 7) k = w (8 + 8 * k + 5) ∧ v.1 (b + 8) k = w (8 + 8 * k + 6)
def BRc (v : gV) (b : Nat) (w : Nat → Int32) (nc : Nat) : Prop := ∀ k, k < nc → v.1 (b + 11) k = w (72 + 12 * k) ∧ v.1 (b + 12) k = w (72 + 12 * k + 1) ∧ v.1 (b + 13) k = w (72 + 12 * k + 2) ∧ v.1 (b + 14) k = w (72 + 12 * k + 3) ∧ v.1 (b + 15) k = w (72 + 12 * k + 4) ∧ v.1 (b + 16) k = w (72 + 12 * k + 5) ∧ ∀ o, o < 4 → v.1 (b + 18 + k) o = w (72 + 12 * k + (6 + o))
def BRt (v : gV) (b : Nat) (w : Nat → Int32) (nt : Nat) : Prop := ∀ k, k < nt → v.1 (b + 31) k = w (216 + 4 * k) ∧ v.1 (b + 32) k = w (216 + 4 * k + 1) ∧ v.1 (b + 33) k = w (216 + 4 * k + 2)
def BRe (v : gV) (b : Nat) (w : Nat → Int32) : Prop := ∀ p d, p < 6 → d < 6 → v.1 (b + 39 + p) d = w (264 + 6 * p + d)
def BRo (v : gV) (b : Nat) (w : Nat → Int32) (no : Nat) : Prop := ∀ k, k < no → v.1 (b + 46) k = w (232 + 4 * k) ∧ v.1 (b + 47) k = w (232 + 4 * k + 1) ∧ v.1 (b + 48) k = w (232 + 4 * k + 2)
/-- what the class alone keeps: where the cash comes from, the first capacities; the causes are chars -/
def BRk (v : gV) (b : Nat) (w : Nat → Int32) (nc nt : Nat) : Prop := v.1 b 6 = v.1 b 7 - v.1 b 8 - v.1 b 9 - v.1 b 10 + v.1 b 11 ∧ ∀ k, k < nt → (v.1 (b + 34) k).toInt ≤ 99 ∧ (w (216 + 4 * k + 2)).toInt + sI (fun i => prt w i k) nc ≤ (v.1 (b + 34) k).toInt
def chars (v : gV) (b : Nat) : Prop := ∀ k, k < 12 → vp_nar .char (v.1 (b + 13) k) = v.1 (b + 13) k
def BR (B : Nat) (v : gV) (b : Nat) (w : Nat → Int32) (np nc nt no : Nat) : Prop := Wn w np nc nt no ∧ WFs B w ∧ WFp B w np ∧ WFc w np nc nt ∧ WFt w nt ∧ WFe B w ∧ WFo w no ∧ BRs v b w np nc nt no ∧ BRp v b w np ∧ BRc v b w nc ∧ BRt v b w nt ∧ BRe v b w ∧ BRo v b w no ∧ BRk v b w nc nt ∧ chars v b
/-! what does not change -/
theorem BRp_congr {v v' : gV} {b : Nat} {w w' : Nat → Int32} {np : Nat} (hn : np ≤ 8) (hv : ∀ o, 2 ≤ o → o ≤ 8 → v'.1 (b + o) = v.1 (b + o)) (hw : ∀ i, 8 ≤ i → i < 72 → w' i = w i) (h : BRp v b w np) : BRp v' b w' np := fun k hk => by
  have h1 := h k hk
  rw [hv 2 (by omega) (by omega), hv 3 (by omega) (by omega), hv 4 (by omega) (by omega), hv 5 (by omega) (by omega), hv 6 (by omega) (by omega), hv 7 (by omega) (by omega), hv 8 (by omega) (by omega), hw (8 + 8 * k) (by omega) (by omega), hw (8 + 8 * k + 1) (by omega) (by omega), hw (8 + 8 * k + 2) (by omega) (by omega), hw (8 + 8 * k + 3) (by omega) (by omega), hw (8 + 8 * k + 4) (by omega) (by omega), hw (8 + 8 * k + 5) (by omega) (by omega), hw (8 + 8 * k + 6) (by omega) (by omega)]
  exact h1
theorem BRc_congr {v v' : gV} {b : Nat} {w w' : Nat → Int32} {nc : Nat} (hn : nc ≤ 12) (hv : ∀ o, 11 ≤ o → o ≤ 29 → v'.1 (b + o) = v.1 (b + o)) (hw : ∀ i, 72 ≤ i → i < 216 → w' i = w i) (h : BRc v b w nc) : BRc v' b w' nc := fun k hk => by
  have h1 := h k hk
  rw [hv 11 (by omega) (by omega), hv 12 (by omega) (by omega), hv 13 (by omega) (by omega), hv 14 (by omega) (by omega), hv 15 (by omega) (by omega), hv 16 (by omega) (by omega), hw (72 + 12 * k) (by omega) (by omega), hw (72 + 12 * k + 1) (by omega) (by omega), hw (72 + 12 * k + 2) (by omega) (by omega), hw (72 + 12 * k + 3) (by omega) (by omega), hw (72 + 12 * k + 4) (by omega) (by omega), hw (72 + 12 * k + 5) (by omega) (by omega)]
  refine ⟨h1.1, h1.2.1, h1.2.2.1, h1.2.2.2.1, h1.2.2.2.2.1, h1.2.2.2.2.2.1, fun o ho => ?_⟩
  rw [show b + 18 + k = b + (18 + k) by omega, hv (18 + k) (by omega) (by omega), hw _ (by omega) (by omega), show b + (18 + k) = b + 18 + k by omega]
  exact h1.2.2.2.2.2.2 o ho
theorem BRt_congr {v v' : gV} {b : Nat} {w w' : Nat → Int32} {nt : Nat} (hn : nt ≤ 4) (hv : ∀ o, 31 ≤ o → o ≤ 33 → v'.1 (b + o) = v.1 (b + o)) (hw : ∀ i, 216 ≤ i → i < 232 → w' i = w i) (h : BRt v b w nt) : BRt v' b w' nt := fun k hk => by
  have h1 := h k hk
  rw [hv 31 (by omega) (by omega), hv 32 (by omega) (by omega), hv 33 (by omega) (by omega), hw (216 + 4 * k) (by omega) (by omega), hw (216 + 4 * k + 1) (by omega) (by omega), hw (216 + 4 * k + 2) (by omega) (by omega)]
  exact h1
theorem BRe_congr {v v' : gV} {b : Nat} {w w' : Nat → Int32} (hv : ∀ o, 39 ≤ o → o ≤ 44 → v'.1 (b + o) = v.1 (b + o)) (hw : ∀ i, 264 ≤ i → i < 300 → w' i = w i) (h : BRe v b w) : BRe v' b w' := fun p d hp hd => by
  rw [show b + 39 + p = b + (39 + p) by omega, hv (39 + p) (by omega) (by omega), hw _ (by omega) (by omega), show b + (39 + p) = b + 39 + p by omega]
  exact h p d hp hd
theorem BRo_congr {v v' : gV} {b : Nat} {w w' : Nat → Int32} {no : Nat} (hn : no ≤ 8) (hv : ∀ o, 46 ≤ o → o ≤ 48 → v'.1 (b + o) = v.1 (b + o)) (hw : ∀ i, 232 ≤ i → i < 264 → w' i = w i) (h : BRo v b w no) : BRo v' b w' no := fun k hk => by
  have h1 := h k hk
  rw [hv 46 (by omega) (by omega), hv 47 (by omega) (by omega), hv 48 (by omega) (by omega), hw (232 + 4 * k) (by omega) (by omega), hw (232 + 4 * k + 1) (by omega) (by omega), hw (232 + 4 * k + 2) (by omega) (by omega)]
  exact h1
theorem BRk_congr {v v' : gV} {b : Nat} {w w' : Nat → Int32} {nc nt : Nat} (hc : nc ≤ 12) (hn : nt ≤ 4) (hv : v'.1 b = v.1 b) (hv2 : v'.1 (b + 34) = v.1 (b + 34)) (hw : ∀ i, 72 ≤ i → i < 232 → w' i = w i) (h : BRk v b w nc nt) : BRk v' b w' nc nt := by
  unfold BRk
  rw [hv, hv2]
  refine ⟨h.1, fun k hk => ?_⟩
  rw [hw _ (by omega) (by omega), sI_congr (g := fun i => prt w i k) fun i hi => by unfold prt; rw [hw _ (by omega) (by omega)]]
  exact h.2 k hk
theorem chars_congr {v v' : gV} {b : Nat} (hv : v'.1 (b + 13) = v.1 (b + 13)) (h : chars v b) : chars v' b := fun k hk => by
  rw [hv]
  exact h k hk
theorem WFp_congr {B B' : Nat} {w w' : Nat → Int32} {np : Nat} (hn : np ≤ 8) (hB : B ≤ B') (h4 : (w 4).toInt ≤ (w' 4).toInt) (hw : ∀ i, 8 ≤ i → i < 72 → w' i = w i) (h : WFp B w np) : WFp B' w' np := by
  refine ⟨fun k hk => ?_, fun j k hj hk => ?_⟩
  · have h1 := h.1 k hk
    unfold WFp1 at h1 ⊢
    rw [hw (8 + 8 * k) (by omega) (by omega), hw (8 + 8 * k + 1) (by omega) (by omega), hw (8 + 8 * k + 2) (by omega) (by omega), hw (8 + 8 * k + 3) (by omega) (by omega), hw (8 + 8 * k + 4) (by omega) (by omega), hw (8 + 8 * k + 5) (by omega) (by omega), hw (8 + 8 * k + 6) (by omega) (by omega)]
    omega
  · rw [hw _ (by omega) (by omega), hw _ (by omega) (by omega)]
    exact h.2 j k hj hk
theorem WFc_congr {w w' : Nat → Int32} {np np' nc nt : Nat} (hn : nc ≤ 12) (h5 : (w 5).toInt ≤ (w' 5).toInt) (h6 : (w 6).toInt ≤ (w' 6).toInt) (hp : ∀ k q, k < nc → q < np → w (8 + 8 * q) = w (72 + 12 * k + 1) → ∃ q', q' < np' ∧ w' (8 + 8 * q') = w (8 + 8 * q)) (hw : ∀ i, 72 ≤ i → i < 216 → w' i = w i) (h : WFc w np nc nt) : WFc w' np' nc nt := by
  refine ⟨fun k hk => ?_, fun j k hj hk => ?_⟩
  · obtain ⟨a1, a2, ⟨q, hq, a3⟩, a4, a5, a6, a7, a8, a9, a10, a11, a12, a13⟩ := h.1 k hk
    obtain ⟨q', hq', e⟩ := hp k q hk hq a3
    unfold WFc1
    have hprt : ∀ o, o < 4 → prt w' k o = prt w k o := fun o ho => by unfold prt; rw [hw _ (by omega) (by omega)]
    rw [hw (72 + 12 * k) (by omega) (by omega), hw (72 + 12 * k + 1) (by omega) (by omega), hw (72 + 12 * k + 2) (by omega) (by omega), hw (72 + 12 * k + 3) (by omega) (by omega), hw (72 + 12 * k + 4) (by omega) (by omega), hw (72 + 12 * k + 5) (by omega) (by omega)]
    exact ⟨a1, by omega, ⟨q', hq', by rw [e, a3]⟩, a4, a5, a6, a7, a8, a9, by omega, fun o ho => by rw [hprt o ho]; exact a11 o ho, by rw [sI_congr hprt]; exact a12, fun o ho h2 => by rw [hw _ (by omega) (by omega)]; exact a13 o ho h2⟩
  · rw [hw _ (by omega) (by omega), hw _ (by omega) (by omega)]
    exact h.2 j k hj hk
theorem WFt_congr {w w' : Nat → Int32} {nt : Nat} (hn : nt ≤ 4) (hw : ∀ i, 216 ≤ i → i < 232 → w' i = w i) (h : WFt w nt) : WFt w' nt := fun k hk => by
  have h1 := h k hk
  rw [hw (216 + 4 * k) (by omega) (by omega), hw (216 + 4 * k + 1) (by omega) (by omega), hw (216 + 4 * k + 2) (by omega) (by omega)]
  exact h1
theorem WFe_congr {B B' : Nat} {w w' : Nat → Int32} (hB : B ≤ B') (hw : ∀ i, 264 ≤ i → i < 300 → w' i = w i) (h : WFe B w) : WFe B' w' := fun p d hp hd => by
  have h1 := h p d hp hd
  rw [hw _ (by omega) (by omega)]
  omega
theorem WFo_congr {w w' : Nat → Int32} {no : Nat} (hn : no ≤ 8) (hw : ∀ i, 232 ≤ i → i < 264 → w' i = w i) (h : WFo w no) : WFo w' no := fun k hk => by
  have h1 := h k hk
  rw [hw (232 + 4 * k) (by omega) (by omega), hw (232 + 4 * k + 1) (by omega) (by omega), hw (232 + 4 * k + 2) (by omega) (by omega)]
  exact h1
/-- outside a book nothing changes -/
def Fr (v v' : gV) : Prop := v'.2 = v.2 ∧ ∀ j, j = 0 ∨ 51 ≤ j → v'.1 j = v.1 j
theorem Fr.refl (v : gV) : Fr v v := ⟨rfl, fun _ _ => rfl⟩
theorem Fr.trans {v u t : gV} (h : Fr v u) (g : Fr u t) : Fr v t := ⟨g.1.trans h.1, fun j hj => (g.2 j hj).trans (h.2 j hj)⟩
theorem Fr.row {v u : gV} (h : Fr v u) {j : Nat} (f : Nat → Int32) (h0 : ¬ j = 0) (h1 : j < 51) : Fr v (vRow u j f) := ⟨h.1, fun i hi => by rw [vRow_ne _ _ (by omega)]; exact h.2 i hi⟩
theorem BR.mono {B B' : Nat} {v : gV} {b : Nat} {w : Nat → Int32} {np nc nt no : Nat} (hB : B ≤ B') (h : BR B v b w np nc nt no) : BR B' v b w np nc nt no := by
  obtain ⟨h1, h2, h3, h4, h5, h6, h7, h8⟩ := h
  obtain ⟨n1, n2, n3, n4, n5, n6, n7, n8⟩ := id h1
  exact ⟨h1, by unfold WFs at h2 ⊢; omega, WFp_congr n5 hB (Int.le_refl _) (fun _ _ _ => rfl) h3, h4, h5, WFe_congr hB (fun _ _ _ => rfl) h6, h7, h8⟩
