/-! the law's calls, one theorem each -/
theorem pl_int {cv b : Int32} {K : gV → Int32 × gV} {PK : gV → Prop} {u : gV} (h : PK u ∧ (K u).1 = 1) (e : cv = b) : (((cv = b) → PK u) ∧ (¬ (cv = b) → True)) ∧ (if cv = b then K u else ((0 : Int32), u)).1 = 1 := by
  rw [if_pos e]
  exact ⟨⟨fun _ => h.1, fun _ => trivial⟩, h.2⟩
theorem J_thr {B : Nat} {v : gV} (hJ : J B v) : J (B + 64) (thr v (nI 0)) := (hJ.sc (thr_Th v _).sc).mono (by omega)
def cFd (K : gV → Int32 × gV) (v : gV) (b : UInt64) : Int32 × gV := if (Op.cmpValue (FP.dcmp (v.2.2 (0 : Int32).toNatClampNeg) b) .l) = 0 then K v else (if (Op.cmpValue (FP.dcmp (v.2.2 (0 : Int32).toNatClampNeg) (v.2.2 (0 : Int32).toNatClampNeg)) .l) = 0 then ((0 : Int32), v) else (if (Op.cmpValue (FP.dcmp b b) .l) = 0 then ((0 : Int32), v) else K v))
def cPd (PK : gV → Prop) (v : gV) (b : UInt64) : Prop := (((Op.cmpValue (FP.dcmp (v.2.2 (0 : Int32).toNatClampNeg) b) .l) = 0) → PK v) ∧ (¬ ((Op.cmpValue (FP.dcmp (v.2.2 (0 : Int32).toNatClampNeg) b) .l) = 0) → ((((Op.cmpValue (FP.dcmp (v.2.2 (0 : Int32).toNatClampNeg) (v.2.2 (0 : Int32).toNatClampNeg)) .l) = 0) → True) ∧ (¬ ((Op.cmpValue (FP.dcmp (v.2.2 (0 : Int32).toNatClampNeg) (v.2.2 (0 : Int32).toNatClampNeg)) .l) = 0) → ((((Op.cmpValue (FP.dcmp b b) .l) = 0) → True) ∧ (¬ ((Op.cmpValue (FP.dcmp b b) .l) = 0) → PK v)))))
def cFf (K : gV → Int32 × gV) (v : gV) (b : UInt32) : Int32 × gV := if (Op.cmpValue (FP.dcmp (v.2.2 (0 : Int32).toNatClampNeg) (FP.f2d b)) .l) = 0 then K v else (if (Op.cmpValue (FP.dcmp (v.2.2 (0 : Int32).toNatClampNeg) (v.2.2 (0 : Int32).toNatClampNeg)) .l) = 0 then ((0 : Int32), v) else (if (Op.cmpValue (FP.fcmp b b) .l) = 0 then ((0 : Int32), v) else K v))
def cPf (PK : gV → Prop) (v : gV) (b : UInt32) : Prop := (vf_n64 (FP.f2d b)) ∧ ((((Op.cmpValue (FP.dcmp (v.2.2 (0 : Int32).toNatClampNeg) (FP.f2d b)) .l) = 0) → PK v) ∧ (¬ ((Op.cmpValue (FP.dcmp (v.2.2 (0 : Int32).toNatClampNeg) (FP.f2d b)) .l) = 0) → ((((Op.cmpValue (FP.dcmp (v.2.2 (0 : Int32).toNatClampNeg) (v.2.2 (0 : Int32).toNatClampNeg)) .l) = 0) → True) ∧ (¬ ((Op.cmpValue (FP.dcmp (v.2.2 (0 : Int32).toNatClampNeg) (v.2.2 (0 : Int32).toNatClampNeg)) .l) = 0) → ((((Op.cmpValue (FP.fcmp b b) .l) = 0) → True) ∧ (¬ ((Op.cmpValue (FP.fcmp b b) .l) = 0) → PK v))))))
def cFl (K : gV → Int32 × gV) (v : gV) (b : Int64) : Int32 × gV := if (lg_cmp (v.2.1 570 (0 : Int32).toNatClampNeg) b) = 0 then K v else (((0 : Int32), v))
def cPl (PK : gV → Prop) (v : gV) (b : Int64) : Prop := (((lg_cmp (v.2.1 570 (0 : Int32).toNatClampNeg) b) = 0) → PK v) ∧ (¬ ((lg_cmp (v.2.1 570 (0 : Int32).toNatClampNeg) b) = 0) → (True))
def sFl (u : gV) (r : Int64) : Int32 × gV := ((0 : Int32), vL u 570 (0 : Int32).toNatClampNeg r)
def psl (_ : gV) (_ : Int64) : Prop := (vp_in (0 : Int32) 1) ∧ True
def sFd (u : gV) (r : UInt64) : Int32 × gV := ((0 : Int32), vF u (0 : Int32).toNatClampNeg r)
def psd (_ : gV) (_ : UInt64) : Prop := (vp_in (0 : Int32) 1) ∧ True
def sFf (u : gV) (r : UInt32) : Int32 × gV := ((0 : Int32), vF u (0 : Int32).toNatClampNeg (FP.f2d r))
def psf (_ : gV) (r : UInt32) : Prop := (vf_n64 (FP.f2d r)) ∧ ((vp_in (0 : Int32) 1) ∧ True)
def sFb (u : gV) (r : Int32) : Int32 × gV := if r = 0 then ((0 : Int32), vL u 570 (0 : Int32).toNatClampNeg (0 : Int64)) else ((0 : Int32), vL u 570 (0 : Int32).toNatClampNeg (1 : Int64))
def psb (_ : gV) (r : Int32) : Prop := ((r = 0) → ((vp_in (0 : Int32) 1) ∧ True)) ∧ (¬ (r = 0) → ((vp_in (0 : Int32) 1) ∧ True))
def cFb (K : gV → Int32 × gV) (v : gV) (b : Int32) : Int32 × gV := if b = 0 then (if (lg_cmp (v.2.1 570 (0 : Int32).toNatClampNeg) (0 : Int64)) = 0 then K v else (((0 : Int32), v))) else (if (lg_cmp (v.2.1 570 (0 : Int32).toNatClampNeg) (1 : Int64)) = 0 then K v else (((0 : Int32), v)))
def cPb (PK : gV → Prop) (v : gV) (b : Int32) : Prop := ((b = 0) → ((((lg_cmp (v.2.1 570 (0 : Int32).toNatClampNeg) (0 : Int64)) = 0) → PK v) ∧ (¬ ((lg_cmp (v.2.1 570 (0 : Int32).toNatClampNeg) (0 : Int64)) = 0) → (True)))) ∧ (¬ (b = 0) → ((((lg_cmp (v.2.1 570 (0 : Int32).toNatClampNeg) (1 : Int64)) = 0) → PK v) ∧ (¬ ((lg_cmp (v.2.1 570 (0 : Int32).toNatClampNeg) (1 : Int64)) = 0) → (True))))
theorem hc_l (K : gV → Int32 × gV) (PK : gV → Prop) (u : gV) (r : Int64) (w : gV) (hw : w.2 = (sFl u r).2.2) : cFl K w r = K w ∧ (PK w → cPl PK w r) := by
  have e : lg_cmp (w.2.1 570 (0 : Int32).toNatClampNeg) r = 0 := by
    rw [hw]
    exact (lg_cmp_eq _ _).mpr (vL_at u 570 _ _)
  exact ⟨if_pos e, fun h => ⟨fun _ => h, fun _ => trivial⟩⟩
theorem hc_b (K : gV → Int32 × gV) (PK : gV → Prop) (u : gV) (r : Int32) (w : gV) (hw : w.2 = (sFb u r).2.2) : cFb K w r = K w ∧ (PK w → cPb PK w r) := by
  unfold sFb at hw
  unfold cFb cPb
  by_cases h0 : r = 0
  · rw [if_pos h0] at hw
    have e : lg_cmp (w.2.1 570 (0 : Int32).toNatClampNeg) (0 : Int64) = 0 := by
      rw [hw]
      exact (lg_cmp_eq _ _).mpr (vL_at u 570 _ _)
    rw [if_pos h0, if_pos e]
    exact ⟨rfl, fun h => ⟨fun _ => ⟨fun _ => h, fun _ => trivial⟩, fun g => absurd h0 g⟩⟩
  · rw [if_neg h0] at hw
    have e : lg_cmp (w.2.1 570 (0 : Int32).toNatClampNeg) (1 : Int64) = 0 := by
      rw [hw]
      exact (lg_cmp_eq _ _).mpr (vL_at u 570 _ _)
    rw [if_neg h0, if_pos e]
    exact ⟨rfl, fun h => ⟨fun g => absurd g h0, fun _ => ⟨fun _ => h, fun _ => trivial⟩⟩⟩
theorem vF_at (u : gV) (k : Nat) (x : UInt64) : (vF u k x).2.2 k = x := if_pos rfl
theorem hc_d (K : gV → Int32 × gV) (PK : gV → Prop) (u : gV) (r : UInt64) (w : gV) (hr : ok64 r) (hw : w.2 = (sFd u r).2.2) : cFd K w r = K w ∧ (PK w → cPd PK w r) := by
  have e0 : w.2.2 (0 : Int32).toNatClampNeg = r := by
    rw [hw]
    exact vF_at u _ _
  have e : Op.cmpValue (FP.dcmp (w.2.2 (0 : Int32).toNatClampNeg) r) .l = 0 := by
    rw [e0]
    exact dcmp_self hr
  exact ⟨if_pos e, fun h => ⟨fun _ => h, fun g => absurd e g⟩⟩
theorem hc_f (K : gV → Int32 × gV) (PK : gV → Prop) (u : gV) (r : UInt32) (w : gV) (hr : ok32 r) (hw : w.2 = (sFf u r).2.2) : cFf K w r = K w ∧ (PK w → cPf PK w r) := by
  have e0 : w.2.2 (0 : Int32).toNatClampNeg = FP.f2d r := by
    rw [hw]
    exact vF_at u _ _
  have e : Op.cmpValue (FP.dcmp (w.2.2 (0 : Int32).toNatClampNeg) (FP.f2d r)) .l = 0 := by
    rw [e0]
    exact dcmp_self (f2d_ok hr)
  exact ⟨if_pos e, fun h => ⟨n64_ok (f2d_ok hr), fun _ => h, fun g => absurd e g⟩⟩
theorem op_00 {N : Nat} {xs : Nat → Int32} {K28 : Int32 → gV → Int32 × gV} {PK28 : Int32 → gV → Prop} {x5 : Int32} {B : Nat} (hB : B < 33000) (v1 : vp_in (x5 + (1 : Int32)) N) (v2 : vp_in (x5 + (2 : Int32)) N) (v3 : vp_in (x5 + (3 : Int32)) N) (v4 : vp_in (x5 + (4 : Int32)) N) (hK : ∀ u, J (B + 64) u → PK28 (x5 + 5) u ∧ (K28 (x5 + 5) u).1 = 1) {v : gV} (hJ : J B v) : p_L_law_308 N xs K28 PK28 x5 v ∧ (f_L_law_308 N xs K28 x5 v).1 = 1 := by
  have h := op_int (A_insure (xs (x5 + (1 : Int32)).toNatClampNeg) (xs (x5 + (2 : Int32)).toNatClampNeg) (xs (x5 + (3 : Int32)).toNatClampNeg) (B := B) (by omega)) (H2 "java/lang/IllegalArgumentException" "java/lang/IllegalStateException") (Q2 "java/lang/IllegalArgumentException" "java/lang/IllegalStateException") (HQ2 (by decide +kernel) (by decide +kernel) (by decide +kernel)) (K28 (x5 + 5)) (PK28 (x5 + 5)) hK hJ (fL := f_L_insure (xs (x5 + (1 : Int32)).toNatClampNeg) (xs (x5 + (2 : Int32)).toNatClampNeg) (xs (x5 + (3 : Int32)).toNatClampNeg)) (pL := p_L_insure (xs (x5 + (1 : Int32)).toNatClampNeg) (xs (x5 + (2 : Int32)).toNatClampNeg) (xs (x5 + (3 : Int32)).toNatClampNeg)) rfl rfl
  rw [p_L_law_308, f_L_law_308, p_L_law_331, f_L_law_331]
  exact ⟨⟨v1, v2, v3, h.1, v1, v2, v3, h.2.1, h.2.2.1⟩, h.2.2.2⟩
theorem op_01 {N : Nat} {xs : Nat → Int32} {K28 : Int32 → gV → Int32 × gV} {PK28 : Int32 → gV → Prop} {x5 : Int32} {B : Nat} (hB : B < 33000) (v1 : vp_in (x5 + (1 : Int32)) N) (v2 : vp_in (x5 + (2 : Int32)) N) (v3 : vp_in (x5 + (3 : Int32)) N) (v4 : vp_in (x5 + (4 : Int32)) N) (hK : ∀ u, J (B + 64) u → PK28 (x5 + 5) u ∧ (K28 (x5 + 5) u).1 = 1) {v : gV} (hJ : J B v) : p_L_law_388 N xs K28 PK28 x5 v ∧ (f_L_law_388 N xs K28 x5 v).1 = 1 := by
  have h := op_int (A_endPolicy (xs (x5 + (1 : Int32)).toNatClampNeg) (B := B)) (H2 "java/util/NoSuchElementException" "java/lang/IllegalStateException") (Q2 "java/util/NoSuchElementException" "java/lang/IllegalStateException") (HQ2 (by decide +kernel) (by decide +kernel) (by decide +kernel)) (K28 (x5 + 5)) (PK28 (x5 + 5)) hK hJ (fL := f_L_endPolicy (xs (x5 + (1 : Int32)).toNatClampNeg)) (pL := p_L_endPolicy (xs (x5 + (1 : Int32)).toNatClampNeg)) rfl rfl
  rw [p_L_law_388, f_L_law_388, p_L_law_399, f_L_law_399]
  exact ⟨⟨v1, h.1, v1, h.2.1, h.2.2.1⟩, h.2.2.2⟩
theorem op_02 {N : Nat} {xs : Nat → Int32} {K28 : Int32 → gV → Int32 × gV} {PK28 : Int32 → gV → Prop} {x5 : Int32} {B : Nat} (hB : B < 33000) (v1 : vp_in (x5 + (1 : Int32)) N) (v2 : vp_in (x5 + (2 : Int32)) N) (v3 : vp_in (x5 + (3 : Int32)) N) (v4 : vp_in (x5 + (4 : Int32)) N) (hK : ∀ u, J (B + 64) u → PK28 (x5 + 5) u ∧ (K28 (x5 + 5) u).1 = 1) {v : gV} (hJ : J B v) : p_L_law_444 N xs K28 PK28 x5 v ∧ (f_L_law_444 N xs K28 x5 v).1 = 1 := by
  have h := op_int (A_addTreaty (xs (x5 + (1 : Int32)).toNatClampNeg) (xs (x5 + (2 : Int32)).toNatClampNeg) (xs (x5 + (3 : Int32)).toNatClampNeg) (xs (x5 + (4 : Int32)).toNatClampNeg) (B := B)) (H2 "java/lang/IllegalArgumentException" "java/lang/IllegalStateException") (Q2 "java/lang/IllegalArgumentException" "java/lang/IllegalStateException") (HQ2 (by decide +kernel) (by decide +kernel) (by decide +kernel)) (K28 (x5 + 5)) (PK28 (x5 + 5)) hK hJ (fL := f_L_addTreaty (xs (x5 + (1 : Int32)).toNatClampNeg) (xs (x5 + (2 : Int32)).toNatClampNeg) (xs (x5 + (3 : Int32)).toNatClampNeg) (xs (x5 + (4 : Int32)).toNatClampNeg)) (pL := p_L_addTreaty (xs (x5 + (1 : Int32)).toNatClampNeg) (xs (x5 + (2 : Int32)).toNatClampNeg) (xs (x5 + (3 : Int32)).toNatClampNeg) (xs (x5 + (4 : Int32)).toNatClampNeg)) rfl rfl
  rw [p_L_law_444, f_L_law_444, p_L_law_473, f_L_law_473]
  exact ⟨⟨v1, v2, v3, v4, h.1, v1, v2, v3, v4, h.2.1, h.2.2.1⟩, h.2.2.2⟩
theorem op_03 {N : Nat} {xs : Nat → Int32} {K28 : Int32 → gV → Int32 × gV} {PK28 : Int32 → gV → Prop} {x5 : Int32} {B : Nat} (hB : B < 33000) (v1 : vp_in (x5 + (1 : Int32)) N) (v2 : vp_in (x5 + (2 : Int32)) N) (v3 : vp_in (x5 + (3 : Int32)) N) (v4 : vp_in (x5 + (4 : Int32)) N) (hK : ∀ u, J (B + 64) u → PK28 (x5 + 5) u ∧ (K28 (x5 + 5) u).1 = 1) {v : gV} (hJ : J B v) : p_L_law_536 N xs K28 PK28 x5 v ∧ (f_L_law_536 N xs K28 x5 v).1 = 1 := by
  have h := op_int (A_dropTreaty (xs (x5 + (1 : Int32)).toNatClampNeg) (B := B)) (H2 "java/lang/IndexOutOfBoundsException" "java/lang/IllegalStateException") (Q2 "java/lang/IndexOutOfBoundsException" "java/lang/IllegalStateException") (HQ2 (by decide +kernel) (by decide +kernel) (by decide +kernel)) (K28 (x5 + 5)) (PK28 (x5 + 5)) hK hJ (fL := f_L_dropTreaty (xs (x5 + (1 : Int32)).toNatClampNeg)) (pL := p_L_dropTreaty (xs (x5 + (1 : Int32)).toNatClampNeg)) rfl rfl
  rw [p_L_law_536, f_L_law_536, p_L_law_547, f_L_law_547]
  exact ⟨⟨v1, h.1, v1, h.2.1, h.2.2.1⟩, h.2.2.2⟩
theorem op_04 {N : Nat} {xs : Nat → Int32} {K28 : Int32 → gV → Int32 × gV} {PK28 : Int32 → gV → Prop} {x5 : Int32} {B : Nat} (hB : B < 33000) (v1 : vp_in (x5 + (1 : Int32)) N) (v2 : vp_in (x5 + (2 : Int32)) N) (v3 : vp_in (x5 + (3 : Int32)) N) (v4 : vp_in (x5 + (4 : Int32)) N) (hK : ∀ u, J (B + 64) u → PK28 (x5 + 5) u ∧ (K28 (x5 + 5) u).1 = 1) {v : gV} (hJ : J B v) : p_L_law_592 N xs K28 PK28 x5 v ∧ (f_L_law_592 N xs K28 x5 v).1 = 1 := by
  have h := op_int (A_claim (xs (x5 + (1 : Int32)).toNatClampNeg) (xs (x5 + (2 : Int32)).toNatClampNeg) (xs (x5 + (3 : Int32)).toNatClampNeg) (B := B) (by omega)) (H4 "java/util/NoSuchElementException" "java/lang/IllegalArgumentException" "java/lang/IllegalStateException" "java/lang/UnsupportedOperationException") (Q4 "java/util/NoSuchElementException" "java/lang/IllegalArgumentException" "java/lang/IllegalStateException" "java/lang/UnsupportedOperationException") (HQ4 (by decide +kernel) (by decide +kernel) (by decide +kernel) (by decide +kernel) (by decide +kernel) (by decide +kernel) (by decide +kernel) (by decide +kernel) (by decide +kernel) (by decide +kernel)) (K28 (x5 + 5)) (PK28 (x5 + 5)) hK hJ (fL := f_L_claim (xs (x5 + (1 : Int32)).toNatClampNeg) (((xs (x5 + (2 : Int32)).toNatClampNeg).toUInt32 % 65536).toInt32) (xs (x5 + (3 : Int32)).toNatClampNeg)) (pL := p_L_claim (xs (x5 + (1 : Int32)).toNatClampNeg) (((xs (x5 + (2 : Int32)).toNatClampNeg).toUInt32 % 65536).toInt32) (xs (x5 + (3 : Int32)).toNatClampNeg)) rfl rfl
  rw [p_L_law_592, f_L_law_592, p_L_law_616, f_L_law_616]
  exact ⟨⟨v1, v2, v3, h.1, v1, v2, v3, h.2.1, h.2.2.1⟩, h.2.2.2⟩
theorem op_05 {N : Nat} {xs : Nat → Int32} {K28 : Int32 → gV → Int32 × gV} {PK28 : Int32 → gV → Prop} {x5 : Int32} {B : Nat} (hB : B < 33000) (v1 : vp_in (x5 + (1 : Int32)) N) (v2 : vp_in (x5 + (2 : Int32)) N) (v3 : vp_in (x5 + (3 : Int32)) N) (v4 : vp_in (x5 + (4 : Int32)) N) (hK : ∀ u, J (B + 64) u → PK28 (x5 + 5) u ∧ (K28 (x5 + 5) u).1 = 1) {v : gV} (hJ : J B v) : p_L_law_674 N xs K28 PK28 x5 v ∧ (f_L_law_674 N xs K28 x5 v).1 = 1 := by
  have h := op_int (A_pay (xs (x5 + (1 : Int32)).toNatClampNeg) (xs (x5 + (2 : Int32)).toNatClampNeg) (B := B) (by omega)) (H3 "java/util/NoSuchElementException" "java/lang/IllegalArgumentException" "java/lang/IllegalStateException") (Q3 "java/util/NoSuchElementException" "java/lang/IllegalArgumentException" "java/lang/IllegalStateException") (HQ3 (by decide +kernel) (by decide +kernel) (by decide +kernel) (by decide +kernel) (by decide +kernel) (by decide +kernel)) (K28 (x5 + 5)) (PK28 (x5 + 5)) hK hJ (fL := f_L_pay (xs (x5 + (1 : Int32)).toNatClampNeg) (xs (x5 + (2 : Int32)).toNatClampNeg)) (pL := p_L_pay (xs (x5 + (1 : Int32)).toNatClampNeg) (xs (x5 + (2 : Int32)).toNatClampNeg)) rfl rfl
  rw [p_L_law_674, f_L_law_674, p_L_law_691, f_L_law_691]
  exact ⟨⟨v1, v2, h.1, v1, v2, h.2.1, h.2.2.1⟩, h.2.2.2⟩
theorem op_06 {N : Nat} {xs : Nat → Int32} {K28 : Int32 → gV → Int32 × gV} {PK28 : Int32 → gV → Prop} {x5 : Int32} {B : Nat} (hB : B < 33000) (v1 : vp_in (x5 + (1 : Int32)) N) (v2 : vp_in (x5 + (2 : Int32)) N) (v3 : vp_in (x5 + (3 : Int32)) N) (v4 : vp_in (x5 + (4 : Int32)) N) (hK : ∀ u, J (B + 64) u → PK28 (x5 + 5) u ∧ (K28 (x5 + 5) u).1 = 1) {v : gV} (hJ : J B v) : p_L_law_742 N xs K28 PK28 x5 v ∧ (f_L_law_742 N xs K28 x5 v).1 = 1 := by
  have h := op_int (A_closeClaim (xs (x5 + (1 : Int32)).toNatClampNeg) (B := B)) (H2 "java/util/NoSuchElementException" "java/lang/IllegalStateException") (Q2 "java/util/NoSuchElementException" "java/lang/IllegalStateException") (HQ2 (by decide +kernel) (by decide +kernel) (by decide +kernel)) (K28 (x5 + 5)) (PK28 (x5 + 5)) hK hJ (fL := f_L_closeClaim (xs (x5 + (1 : Int32)).toNatClampNeg)) (pL := p_L_closeClaim (xs (x5 + (1 : Int32)).toNatClampNeg)) rfl rfl
  rw [p_L_law_742, f_L_law_742, p_L_law_753, f_L_law_753]
  exact ⟨⟨v1, h.1, v1, h.2.1, h.2.2.1⟩, h.2.2.2⟩
theorem op_07 {N : Nat} {xs : Nat → Int32} {K28 : Int32 → gV → Int32 × gV} {PK28 : Int32 → gV → Prop} {x5 : Int32} {B : Nat} (hB : B < 33000) (v1 : vp_in (x5 + (1 : Int32)) N) (v2 : vp_in (x5 + (2 : Int32)) N) (v3 : vp_in (x5 + (3 : Int32)) N) (v4 : vp_in (x5 + (4 : Int32)) N) (hK : ∀ u, J (B + 64) u → PK28 (x5 + 5) u ∧ (K28 (x5 + 5) u).1 = 1) {v : gV} (hJ : J B v) : p_L_law_798 N xs K28 PK28 x5 v ∧ (f_L_law_798 N xs K28 x5 v).1 = 1 := by
  have h := op_int (A_withdrawClaim (xs (x5 + (1 : Int32)).toNatClampNeg) (B := B) (by omega)) (H2 "java/util/NoSuchElementException" "java/lang/IllegalStateException") (Q2 "java/util/NoSuchElementException" "java/lang/IllegalStateException") (HQ2 (by decide +kernel) (by decide +kernel) (by decide +kernel)) (K28 (x5 + 5)) (PK28 (x5 + 5)) hK hJ (fL := f_L_withdrawClaim (xs (x5 + (1 : Int32)).toNatClampNeg)) (pL := p_L_withdrawClaim (xs (x5 + (1 : Int32)).toNatClampNeg)) rfl rfl
  rw [p_L_law_798, f_L_law_798, p_L_law_809, f_L_law_809]
  exact ⟨⟨v1, h.1, v1, h.2.1, h.2.2.1⟩, h.2.2.2⟩
theorem op_08 {N : Nat} {xs : Nat → Int32} {K28 : Int32 → gV → Int32 × gV} {PK28 : Int32 → gV → Prop} {x5 : Int32} {B : Nat} (hB : B < 33000) (v1 : vp_in (x5 + (1 : Int32)) N) (v2 : vp_in (x5 + (2 : Int32)) N) (v3 : vp_in (x5 + (3 : Int32)) N) (v4 : vp_in (x5 + (4 : Int32)) N) (hK : ∀ u, J (B + 64) u → PK28 (x5 + 5) u ∧ (K28 (x5 + 5) u).1 = 1) {v : gV} (hJ : J B v) : p_L_law_854 N xs K28 PK28 x5 v ∧ (f_L_law_854 N xs K28 x5 v).1 = 1 := by
  have h := op_int (A_addOffer (xs (x5 + (1 : Int32)).toNatClampNeg) (xs (x5 + (2 : Int32)).toNatClampNeg) (xs (x5 + (3 : Int32)).toNatClampNeg) (B := B)) (H2 "java/lang/IllegalArgumentException" "java/lang/IllegalStateException") (Q2 "java/lang/IllegalArgumentException" "java/lang/IllegalStateException") (HQ2 (by decide +kernel) (by decide +kernel) (by decide +kernel)) (K28 (x5 + 5)) (PK28 (x5 + 5)) hK hJ (fL := f_L_addOffer (xs (x5 + (1 : Int32)).toNatClampNeg) (xs (x5 + (2 : Int32)).toNatClampNeg) (xs (x5 + (3 : Int32)).toNatClampNeg)) (pL := p_L_addOffer (xs (x5 + (1 : Int32)).toNatClampNeg) (xs (x5 + (2 : Int32)).toNatClampNeg) (xs (x5 + (3 : Int32)).toNatClampNeg)) rfl rfl
  rw [p_L_law_854, f_L_law_854, p_L_law_877, f_L_law_877]
  exact ⟨⟨v1, v2, v3, h.1, v1, v2, v3, h.2.1, h.2.2.1⟩, h.2.2.2⟩
theorem op_09 {N : Nat} {xs : Nat → Int32} {K28 : Int32 → gV → Int32 × gV} {PK28 : Int32 → gV → Prop} {x5 : Int32} {B : Nat} (hB : B < 33000) (v1 : vp_in (x5 + (1 : Int32)) N) (v2 : vp_in (x5 + (2 : Int32)) N) (v3 : vp_in (x5 + (3 : Int32)) N) (v4 : vp_in (x5 + (4 : Int32)) N) (hK : ∀ u, J (B + 64) u → PK28 (x5 + 5) u ∧ (K28 (x5 + 5) u).1 = 1) {v : gV} (hJ : J B v) : p_L_law_934 N xs K28 PK28 x5 v ∧ (f_L_law_934 N xs K28 x5 v).1 = 1 := by
  have h := op_int (A_dropOffer (xs (x5 + (1 : Int32)).toNatClampNeg) (B := B)) (H1 "java/lang/IndexOutOfBoundsException") (Q1 "java/lang/IndexOutOfBoundsException") (HQ1 (by decide +kernel)) (K28 (x5 + 5)) (PK28 (x5 + 5)) hK hJ (fL := f_L_dropOffer (xs (x5 + (1 : Int32)).toNatClampNeg)) (pL := p_L_dropOffer (xs (x5 + (1 : Int32)).toNatClampNeg)) rfl rfl
  rw [p_L_law_934, f_L_law_934, p_L_law_945, f_L_law_945]
  exact ⟨⟨v1, h.1, v1, h.2.1, h.2.2.1⟩, h.2.2.2⟩
theorem op_10 {N : Nat} {xs : Nat → Int32} {K28 : Int32 → gV → Int32 × gV} {PK28 : Int32 → gV → Prop} {x5 : Int32} {B : Nat} (hB : B < 33000) (v1 : vp_in (x5 + (1 : Int32)) N) (v2 : vp_in (x5 + (2 : Int32)) N) (v3 : vp_in (x5 + (3 : Int32)) N) (v4 : vp_in (x5 + (4 : Int32)) N) (hK : ∀ u, J (B + 64) u → PK28 (x5 + 5) u ∧ (K28 (x5 + 5) u).1 = 1) {v : gV} (hJ : J B v) : p_L_law_990 N xs K28 PK28 x5 v ∧ (f_L_law_990 N xs K28 x5 v).1 = 1 := by
  have h := op_int (A_passDays (xs (x5 + (1 : Int32)).toNatClampNeg) (B := B) (by omega)) (H1 "java/lang/IllegalArgumentException") (Q1 "java/lang/IllegalArgumentException") (HQ1 (by decide +kernel)) (K28 (x5 + 5)) (PK28 (x5 + 5)) hK hJ (fL := f_L_passDays (xs (x5 + (1 : Int32)).toNatClampNeg)) (pL := p_L_passDays (xs (x5 + (1 : Int32)).toNatClampNeg)) rfl rfl
  rw [p_L_law_990, f_L_law_990, p_L_law_1001, f_L_law_1001]
  exact ⟨⟨v1, h.1, v1, h.2.1, h.2.2.1⟩, h.2.2.2⟩
theorem op_11 {N : Nat} {xs : Nat → Int32} {K28 : Int32 → gV → Int32 × gV} {PK28 : Int32 → gV → Prop} {x5 : Int32} {B : Nat} (hB : B < 33000) (v1 : vp_in (x5 + (1 : Int32)) N) (v2 : vp_in (x5 + (2 : Int32)) N) (v3 : vp_in (x5 + (3 : Int32)) N) (v4 : vp_in (x5 + (4 : Int32)) N) (hK : ∀ u, J (B + 64) u → PK28 (x5 + 5) u ∧ (K28 (x5 + 5) u).1 = 1) {v : gV} (hJ : J B v) : p_L_law_1046 N xs K28 PK28 x5 v ∧ (f_L_law_1046 N xs K28 x5 v).1 = 1 := by
  obtain ⟨np, nc, nt, no, hbr⟩ := hJ.1
  obtain ⟨k1, k2, k3⟩ := R_day (B := B) v np nc nt no hbr
  have h := hK _ (J_thr hJ)
  rw [p_L_law_1046, f_L_law_1046, k3]
  rw [p_L_law_1054, f_L_law_1054, if_pos rfl]
  exact ⟨⟨k1, k2, fun _ => h.1, fun g => absurd rfl g⟩, h.2⟩
theorem op_12 {N : Nat} {xs : Nat → Int32} {K28 : Int32 → gV → Int32 × gV} {PK28 : Int32 → gV → Prop} {x5 : Int32} {B : Nat} (hB : B < 33000) (v1 : vp_in (x5 + (1 : Int32)) N) (v2 : vp_in (x5 + (2 : Int32)) N) (v3 : vp_in (x5 + (3 : Int32)) N) (v4 : vp_in (x5 + (4 : Int32)) N) (hK : ∀ u, J (B + 64) u → PK28 (x5 + 5) u ∧ (K28 (x5 + 5) u).1 = 1) {v : gV} (hJ : J B v) : p_L_law_1059 N xs K28 PK28 x5 v ∧ (f_L_law_1059 N xs K28 x5 v).1 = 1 := by
  obtain ⟨np, nc, nt, no, hbr⟩ := hJ.1
  obtain ⟨k1, k2, k3⟩ := R_cash (B := B) v np nc nt no hbr
  have h := hK _ (J_thr hJ)
  rw [p_L_law_1059, f_L_law_1059, k3]
  rw [p_L_law_1067, f_L_law_1067, if_pos rfl]
  exact ⟨⟨k1, k2, fun _ => h.1, fun g => absurd rfl g⟩, h.2⟩
theorem op_13 {N : Nat} {xs : Nat → Int32} {K28 : Int32 → gV → Int32 × gV} {PK28 : Int32 → gV → Prop} {x5 : Int32} {B : Nat} (hB : B < 33000) (v1 : vp_in (x5 + (1 : Int32)) N) (v2 : vp_in (x5 + (2 : Int32)) N) (v3 : vp_in (x5 + (3 : Int32)) N) (v4 : vp_in (x5 + (4 : Int32)) N) (hK : ∀ u, J (B + 64) u → PK28 (x5 + 5) u ∧ (K28 (x5 + 5) u).1 = 1) {v : gV} (hJ : J B v) : p_L_law_1072 N xs K28 PK28 x5 v ∧ (f_L_law_1072 N xs K28 x5 v).1 = 1 := by
  obtain ⟨np, nc, nt, no, hbr⟩ := hJ.1
  obtain ⟨k1, k2, k3⟩ := R_policyCount (B := B) v np nc nt no hbr
  have h := hK _ (J_thr hJ)
  rw [p_L_law_1072, f_L_law_1072, k3]
  rw [p_L_law_1080, f_L_law_1080, if_pos rfl]
  exact ⟨⟨k1, k2, fun _ => h.1, fun g => absurd rfl g⟩, h.2⟩
theorem op_14 {N : Nat} {xs : Nat → Int32} {K28 : Int32 → gV → Int32 × gV} {PK28 : Int32 → gV → Prop} {x5 : Int32} {B : Nat} (hB : B < 33000) (v1 : vp_in (x5 + (1 : Int32)) N) (v2 : vp_in (x5 + (2 : Int32)) N) (v3 : vp_in (x5 + (3 : Int32)) N) (v4 : vp_in (x5 + (4 : Int32)) N) (hK : ∀ u, J (B + 64) u → PK28 (x5 + 5) u ∧ (K28 (x5 + 5) u).1 = 1) {v : gV} (hJ : J B v) : p_L_law_1085 N xs K28 PK28 x5 v ∧ (f_L_law_1085 N xs K28 x5 v).1 = 1 := by
  have h := op_int (Ans_rd (R_policyAt (xs (x5 + (1 : Int32)).toNatClampNeg) (B := B))) (H1 "java/lang/IndexOutOfBoundsException") (Q1 "java/lang/IndexOutOfBoundsException") (HQ1 (by decide +kernel)) (K28 (x5 + 5)) (PK28 (x5 + 5)) hK hJ (fL := f_L_policyAt (xs (x5 + (1 : Int32)).toNatClampNeg)) (pL := p_L_policyAt (xs (x5 + (1 : Int32)).toNatClampNeg)) rfl rfl
  rw [p_L_law_1085, f_L_law_1085, p_L_law_1096, f_L_law_1096]
  exact ⟨⟨v1, h.1, v1, h.2.1, h.2.2.1⟩, h.2.2.2⟩
theorem op_15 {N : Nat} {xs : Nat → Int32} {K28 : Int32 → gV → Int32 × gV} {PK28 : Int32 → gV → Prop} {x5 : Int32} {B : Nat} (hB : B < 33000) (v1 : vp_in (x5 + (1 : Int32)) N) (v2 : vp_in (x5 + (2 : Int32)) N) (v3 : vp_in (x5 + (3 : Int32)) N) (v4 : vp_in (x5 + (4 : Int32)) N) (hK : ∀ u, J (B + 64) u → PK28 (x5 + 5) u ∧ (K28 (x5 + 5) u).1 = 1) {v : gV} (hJ : J B v) : p_L_law_1141 N xs K28 PK28 x5 v ∧ (f_L_law_1141 N xs K28 x5 v).1 = 1 := by
  have h := op_int (Ans_rd (R_sumOf (xs (x5 + (1 : Int32)).toNatClampNeg) (B := B))) (H1 "java/util/NoSuchElementException") (Q1 "java/util/NoSuchElementException") (HQ1 (by decide +kernel)) (K28 (x5 + 5)) (PK28 (x5 + 5)) hK hJ (fL := f_L_sumOf (xs (x5 + (1 : Int32)).toNatClampNeg)) (pL := p_L_sumOf (xs (x5 + (1 : Int32)).toNatClampNeg)) rfl rfl
  rw [p_L_law_1141, f_L_law_1141, p_L_law_1152, f_L_law_1152]
  exact ⟨⟨v1, h.1, v1, h.2.1, h.2.2.1⟩, h.2.2.2⟩
theorem op_16 {N : Nat} {xs : Nat → Int32} {K28 : Int32 → gV → Int32 × gV} {PK28 : Int32 → gV → Prop} {x5 : Int32} {B : Nat} (hB : B < 33000) (v1 : vp_in (x5 + (1 : Int32)) N) (v2 : vp_in (x5 + (2 : Int32)) N) (v3 : vp_in (x5 + (3 : Int32)) N) (v4 : vp_in (x5 + (4 : Int32)) N) (hK : ∀ u, J (B + 64) u → PK28 (x5 + 5) u ∧ (K28 (x5 + 5) u).1 = 1) {v : gV} (hJ : J B v) : p_L_law_1197 N xs K28 PK28 x5 v ∧ (f_L_law_1197 N xs K28 x5 v).1 = 1 := by
  have h := op_int (Ans_rd (R_sumLeft (xs (x5 + (1 : Int32)).toNatClampNeg) (B := B))) (H1 "java/util/NoSuchElementException") (Q1 "java/util/NoSuchElementException") (HQ1 (by decide +kernel)) (K28 (x5 + 5)) (PK28 (x5 + 5)) hK hJ (fL := f_L_sumLeft (xs (x5 + (1 : Int32)).toNatClampNeg)) (pL := p_L_sumLeft (xs (x5 + (1 : Int32)).toNatClampNeg)) rfl rfl
  rw [p_L_law_1197, f_L_law_1197, p_L_law_1208, f_L_law_1208]
  exact ⟨⟨v1, h.1, v1, h.2.1, h.2.2.1⟩, h.2.2.2⟩
theorem op_17 {N : Nat} {xs : Nat → Int32} {K28 : Int32 → gV → Int32 × gV} {PK28 : Int32 → gV → Prop} {x5 : Int32} {B : Nat} (hB : B < 33000) (v1 : vp_in (x5 + (1 : Int32)) N) (v2 : vp_in (x5 + (2 : Int32)) N) (v3 : vp_in (x5 + (3 : Int32)) N) (v4 : vp_in (x5 + (4 : Int32)) N) (hK : ∀ u, J (B + 64) u → PK28 (x5 + 5) u ∧ (K28 (x5 + 5) u).1 = 1) {v : gV} (hJ : J B v) : p_L_law_1253 N xs K28 PK28 x5 v ∧ (f_L_law_1253 N xs K28 x5 v).1 = 1 := by
  have h := op_int (Ans_rd (R_riskOf (xs (x5 + (1 : Int32)).toNatClampNeg) (B := B))) (H1 "java/util/NoSuchElementException") (Q1 "java/util/NoSuchElementException") (HQ1 (by decide +kernel)) (K28 (x5 + 5)) (PK28 (x5 + 5)) hK hJ (fL := f_L_riskOf (xs (x5 + (1 : Int32)).toNatClampNeg)) (pL := p_L_riskOf (xs (x5 + (1 : Int32)).toNatClampNeg)) rfl rfl
  rw [p_L_law_1253, f_L_law_1253, p_L_law_1264, f_L_law_1264]
  exact ⟨⟨v1, h.1, v1, h.2.1, h.2.2.1⟩, h.2.2.2⟩
theorem op_18 {N : Nat} {xs : Nat → Int32} {K28 : Int32 → gV → Int32 × gV} {PK28 : Int32 → gV → Prop} {x5 : Int32} {B : Nat} (hB : B < 33000) (v1 : vp_in (x5 + (1 : Int32)) N) (v2 : vp_in (x5 + (2 : Int32)) N) (v3 : vp_in (x5 + (3 : Int32)) N) (v4 : vp_in (x5 + (4 : Int32)) N) (hK : ∀ u, J (B + 64) u → PK28 (x5 + 5) u ∧ (K28 (x5 + 5) u).1 = 1) {v : gV} (hJ : J B v) : p_L_law_1309 N xs K28 PK28 x5 v ∧ (f_L_law_1309 N xs K28 x5 v).1 = 1 := by
  have h := op_int (Ans_rd (R_premiumOf (xs (x5 + (1 : Int32)).toNatClampNeg) (B := B))) (H1 "java/util/NoSuchElementException") (Q1 "java/util/NoSuchElementException") (HQ1 (by decide +kernel)) (K28 (x5 + 5)) (PK28 (x5 + 5)) hK hJ (fL := f_L_premiumOf (xs (x5 + (1 : Int32)).toNatClampNeg)) (pL := p_L_premiumOf (xs (x5 + (1 : Int32)).toNatClampNeg)) rfl rfl
  rw [p_L_law_1309, f_L_law_1309, p_L_law_1320, f_L_law_1320]
  exact ⟨⟨v1, h.1, v1, h.2.1, h.2.2.1⟩, h.2.2.2⟩
theorem op_19 {N : Nat} {xs : Nat → Int32} {K28 : Int32 → gV → Int32 × gV} {PK28 : Int32 → gV → Prop} {x5 : Int32} {B : Nat} (hB : B < 33000) (v1 : vp_in (x5 + (1 : Int32)) N) (v2 : vp_in (x5 + (2 : Int32)) N) (v3 : vp_in (x5 + (3 : Int32)) N) (v4 : vp_in (x5 + (4 : Int32)) N) (hK : ∀ u, J (B + 64) u → PK28 (x5 + 5) u ∧ (K28 (x5 + 5) u).1 = 1) {v : gV} (hJ : J B v) : p_L_law_1365 N xs K28 PK28 x5 v ∧ (f_L_law_1365 N xs K28 x5 v).1 = 1 := by
  have h := op_int (Ans_rd (R_endOf (xs (x5 + (1 : Int32)).toNatClampNeg) (B := B))) (H1 "java/util/NoSuchElementException") (Q1 "java/util/NoSuchElementException") (HQ1 (by decide +kernel)) (K28 (x5 + 5)) (PK28 (x5 + 5)) hK hJ (fL := f_L_endOf (xs (x5 + (1 : Int32)).toNatClampNeg)) (pL := p_L_endOf (xs (x5 + (1 : Int32)).toNatClampNeg)) rfl rfl
  rw [p_L_law_1365, f_L_law_1365, p_L_law_1376, f_L_law_1376]
  exact ⟨⟨v1, h.1, v1, h.2.1, h.2.2.1⟩, h.2.2.2⟩
theorem op_20 {N : Nat} {xs : Nat → Int32} {K28 : Int32 → gV → Int32 × gV} {PK28 : Int32 → gV → Prop} {x5 : Int32} {B : Nat} (hB : B < 33000) (v1 : vp_in (x5 + (1 : Int32)) N) (v2 : vp_in (x5 + (2 : Int32)) N) (v3 : vp_in (x5 + (3 : Int32)) N) (v4 : vp_in (x5 + (4 : Int32)) N) (hK : ∀ u, J (B + 64) u → PK28 (x5 + 5) u ∧ (K28 (x5 + 5) u).1 = 1) {v : gV} (hJ : J B v) : p_L_law_1421 N xs K28 PK28 x5 v ∧ (f_L_law_1421 N xs K28 x5 v).1 = 1 := by
  have h := op_gen (Ans_rd (R_isActive (xs (x5 + (1 : Int32)).toNatClampNeg) (B := B))) sFb psb (H1 "java/util/NoSuchElementException") (Q1 "java/util/NoSuchElementException") (HQ1 (by decide +kernel)) (fun u r _ => by
    unfold psb sFb
    refine ⟨⟨fun _ => ⟨in01, trivial⟩, fun _ => ⟨in01, trivial⟩⟩, ?_⟩
    by_cases h0 : r = 0
    · rw [if_pos h0]
      exact ⟨rfl, rfl⟩
    · rw [if_neg h0]
      exact ⟨rfl, rfl⟩) (K28 (x5 + 5)) (PK28 (x5 + 5)) hK (cFb (K28 (x5 + 5))) (cPb (PK28 (x5 + 5))) (fun u r w _ hw => hc_b _ _ u r w hw) hJ
  have e1 : lF sFb (H1 "java/util/NoSuchElementException") (fun v => (f_X11_isActive (xs (x5 + (1 : Int32)).toNatClampNeg) v, v)) = f_L_isActive (xs (x5 + (1 : Int32)).toNatClampNeg) := rfl
  have e2 : lP psb (Q1 "java/util/NoSuchElementException") (fun v => (f_X11_isActive (xs (x5 + (1 : Int32)).toNatClampNeg) v, v)) (p_X11_isActive (xs (x5 + (1 : Int32)).toNatClampNeg)) = p_L_isActive (xs (x5 + (1 : Int32)).toNatClampNeg) := rfl
  rw [e1, e2] at h
  rw [p_L_law_1421, f_L_law_1421, p_L_law_1432, f_L_law_1432]
  exact ⟨⟨v1, h.1, v1, h.2.1, h.2.2.1⟩, h.2.2.2⟩
theorem op_21 {N : Nat} {xs : Nat → Int32} {K28 : Int32 → gV → Int32 × gV} {PK28 : Int32 → gV → Prop} {x5 : Int32} {B : Nat} (hB : B < 33000) (v1 : vp_in (x5 + (1 : Int32)) N) (v2 : vp_in (x5 + (2 : Int32)) N) (v3 : vp_in (x5 + (3 : Int32)) N) (v4 : vp_in (x5 + (4 : Int32)) N) (hK : ∀ u, J (B + 64) u → PK28 (x5 + 5) u ∧ (K28 (x5 + 5) u).1 = 1) {v : gV} (hJ : J B v) : p_L_law_1484 N xs K28 PK28 x5 v ∧ (f_L_law_1484 N xs K28 x5 v).1 = 1 := by
  obtain ⟨np, nc, nt, no, hbr⟩ := hJ.1
  obtain ⟨k1, k2, k3⟩ := R_claimCount (B := B) v np nc nt no hbr
  have h := hK _ (J_thr hJ)
  rw [p_L_law_1484, f_L_law_1484, k3]
  rw [p_L_law_1492, f_L_law_1492, if_pos rfl]
  exact ⟨⟨k1, k2, fun _ => h.1, fun g => absurd rfl g⟩, h.2⟩
theorem op_22 {N : Nat} {xs : Nat → Int32} {K28 : Int32 → gV → Int32 × gV} {PK28 : Int32 → gV → Prop} {x5 : Int32} {B : Nat} (hB : B < 33000) (v1 : vp_in (x5 + (1 : Int32)) N) (v2 : vp_in (x5 + (2 : Int32)) N) (v3 : vp_in (x5 + (3 : Int32)) N) (v4 : vp_in (x5 + (4 : Int32)) N) (hK : ∀ u, J (B + 64) u → PK28 (x5 + 5) u ∧ (K28 (x5 + 5) u).1 = 1) {v : gV} (hJ : J B v) : p_L_law_1497 N xs K28 PK28 x5 v ∧ (f_L_law_1497 N xs K28 x5 v).1 = 1 := by
  have h := op_int (Ans_rd (R_claimAt (xs (x5 + (1 : Int32)).toNatClampNeg) (B := B))) (H1 "java/lang/IndexOutOfBoundsException") (Q1 "java/lang/IndexOutOfBoundsException") (HQ1 (by decide +kernel)) (K28 (x5 + 5)) (PK28 (x5 + 5)) hK hJ (fL := f_L_claimAt (xs (x5 + (1 : Int32)).toNatClampNeg)) (pL := p_L_claimAt (xs (x5 + (1 : Int32)).toNatClampNeg)) rfl rfl
  rw [p_L_law_1497, f_L_law_1497, p_L_law_1508, f_L_law_1508]
  exact ⟨⟨v1, h.1, v1, h.2.1, h.2.2.1⟩, h.2.2.2⟩
theorem op_23 {N : Nat} {xs : Nat → Int32} {K28 : Int32 → gV → Int32 × gV} {PK28 : Int32 → gV → Prop} {x5 : Int32} {B : Nat} (hB : B < 33000) (v1 : vp_in (x5 + (1 : Int32)) N) (v2 : vp_in (x5 + (2 : Int32)) N) (v3 : vp_in (x5 + (3 : Int32)) N) (v4 : vp_in (x5 + (4 : Int32)) N) (hK : ∀ u, J (B + 64) u → PK28 (x5 + 5) u ∧ (K28 (x5 + 5) u).1 = 1) {v : gV} (hJ : J B v) : p_L_law_1553 N xs K28 PK28 x5 v ∧ (f_L_law_1553 N xs K28 x5 v).1 = 1 := by
  have h := op_int (Ans_rd (R_policyOf (xs (x5 + (1 : Int32)).toNatClampNeg) (B := B))) (H1 "java/util/NoSuchElementException") (Q1 "java/util/NoSuchElementException") (HQ1 (by decide +kernel)) (K28 (x5 + 5)) (PK28 (x5 + 5)) hK hJ (fL := f_L_policyOf (xs (x5 + (1 : Int32)).toNatClampNeg)) (pL := p_L_policyOf (xs (x5 + (1 : Int32)).toNatClampNeg)) rfl rfl
  rw [p_L_law_1553, f_L_law_1553, p_L_law_1564, f_L_law_1564]
  exact ⟨⟨v1, h.1, v1, h.2.1, h.2.2.1⟩, h.2.2.2⟩
theorem op_24 {N : Nat} {xs : Nat → Int32} {K28 : Int32 → gV → Int32 × gV} {PK28 : Int32 → gV → Prop} {x5 : Int32} {B : Nat} (hB : B < 33000) (v1 : vp_in (x5 + (1 : Int32)) N) (v2 : vp_in (x5 + (2 : Int32)) N) (v3 : vp_in (x5 + (3 : Int32)) N) (v4 : vp_in (x5 + (4 : Int32)) N) (hK : ∀ u, J (B + 64) u → PK28 (x5 + 5) u ∧ (K28 (x5 + 5) u).1 = 1) {v : gV} (hJ : J B v) : p_L_law_1609 N xs K28 PK28 x5 v ∧ (f_L_law_1609 N xs K28 x5 v).1 = 1 := by
  have h := op_int (Ans_rd (R_causeOf (xs (x5 + (1 : Int32)).toNatClampNeg) (B := B))) (H1 "java/util/NoSuchElementException") (Q1 "java/util/NoSuchElementException") (HQ1 (by decide +kernel)) (K28 (x5 + 5)) (PK28 (x5 + 5)) hK hJ (fL := f_L_causeOf (xs (x5 + (1 : Int32)).toNatClampNeg)) (pL := p_L_causeOf (xs (x5 + (1 : Int32)).toNatClampNeg)) rfl rfl
  rw [p_L_law_1609, f_L_law_1609, p_L_law_1620, f_L_law_1620]
  exact ⟨⟨v1, h.1, v1, h.2.1, h.2.2.1⟩, h.2.2.2⟩
theorem op_25 {N : Nat} {xs : Nat → Int32} {K28 : Int32 → gV → Int32 × gV} {PK28 : Int32 → gV → Prop} {x5 : Int32} {B : Nat} (hB : B < 33000) (v1 : vp_in (x5 + (1 : Int32)) N) (v2 : vp_in (x5 + (2 : Int32)) N) (v3 : vp_in (x5 + (3 : Int32)) N) (v4 : vp_in (x5 + (4 : Int32)) N) (hK : ∀ u, J (B + 64) u → PK28 (x5 + 5) u ∧ (K28 (x5 + 5) u).1 = 1) {v : gV} (hJ : J B v) : p_L_law_1665 N xs K28 PK28 x5 v ∧ (f_L_law_1665 N xs K28 x5 v).1 = 1 := by
  have h := op_int (Ans_rd (R_amountOf (xs (x5 + (1 : Int32)).toNatClampNeg) (B := B))) (H1 "java/util/NoSuchElementException") (Q1 "java/util/NoSuchElementException") (HQ1 (by decide +kernel)) (K28 (x5 + 5)) (PK28 (x5 + 5)) hK hJ (fL := f_L_amountOf (xs (x5 + (1 : Int32)).toNatClampNeg)) (pL := p_L_amountOf (xs (x5 + (1 : Int32)).toNatClampNeg)) rfl rfl
  rw [p_L_law_1665, f_L_law_1665, p_L_law_1676, f_L_law_1676]
  exact ⟨⟨v1, h.1, v1, h.2.1, h.2.2.1⟩, h.2.2.2⟩
theorem op_26 {N : Nat} {xs : Nat → Int32} {K28 : Int32 → gV → Int32 × gV} {PK28 : Int32 → gV → Prop} {x5 : Int32} {B : Nat} (hB : B < 33000) (v1 : vp_in (x5 + (1 : Int32)) N) (v2 : vp_in (x5 + (2 : Int32)) N) (v3 : vp_in (x5 + (3 : Int32)) N) (v4 : vp_in (x5 + (4 : Int32)) N) (hK : ∀ u, J (B + 64) u → PK28 (x5 + 5) u ∧ (K28 (x5 + 5) u).1 = 1) {v : gV} (hJ : J B v) : p_L_law_1721 N xs K28 PK28 x5 v ∧ (f_L_law_1721 N xs K28 x5 v).1 = 1 := by
  have h := op_int (Ans_rd (R_paidOf (xs (x5 + (1 : Int32)).toNatClampNeg) (B := B))) (H1 "java/util/NoSuchElementException") (Q1 "java/util/NoSuchElementException") (HQ1 (by decide +kernel)) (K28 (x5 + 5)) (PK28 (x5 + 5)) hK hJ (fL := f_L_paidOf (xs (x5 + (1 : Int32)).toNatClampNeg)) (pL := p_L_paidOf (xs (x5 + (1 : Int32)).toNatClampNeg)) rfl rfl
  rw [p_L_law_1721, f_L_law_1721, p_L_law_1732, f_L_law_1732]
  exact ⟨⟨v1, h.1, v1, h.2.1, h.2.2.1⟩, h.2.2.2⟩
theorem op_27 {N : Nat} {xs : Nat → Int32} {K28 : Int32 → gV → Int32 × gV} {PK28 : Int32 → gV → Prop} {x5 : Int32} {B : Nat} (hB : B < 33000) (v1 : vp_in (x5 + (1 : Int32)) N) (v2 : vp_in (x5 + (2 : Int32)) N) (v3 : vp_in (x5 + (3 : Int32)) N) (v4 : vp_in (x5 + (4 : Int32)) N) (hK : ∀ u, J (B + 64) u → PK28 (x5 + 5) u ∧ (K28 (x5 + 5) u).1 = 1) {v : gV} (hJ : J B v) : p_L_law_1777 N xs K28 PK28 x5 v ∧ (f_L_law_1777 N xs K28 x5 v).1 = 1 := by
  have h := op_int (Ans_rd (R_borneBy (xs (x5 + (1 : Int32)).toNatClampNeg) (xs (x5 + (2 : Int32)).toNatClampNeg) (B := B))) (H2 "java/util/NoSuchElementException" "java/lang/IndexOutOfBoundsException") (Q2 "java/util/NoSuchElementException" "java/lang/IndexOutOfBoundsException") (HQ2 (by decide +kernel) (by decide +kernel) (by decide +kernel)) (K28 (x5 + 5)) (PK28 (x5 + 5)) hK hJ (fL := f_L_borneBy (xs (x5 + (1 : Int32)).toNatClampNeg) (xs (x5 + (2 : Int32)).toNatClampNeg)) (pL := p_L_borneBy (xs (x5 + (1 : Int32)).toNatClampNeg) (xs (x5 + (2 : Int32)).toNatClampNeg)) rfl rfl
  rw [p_L_law_1777, f_L_law_1777, p_L_law_1794, f_L_law_1794]
  exact ⟨⟨v1, v2, h.1, v1, v2, h.2.1, h.2.2.1⟩, h.2.2.2⟩
theorem op_28 {N : Nat} {xs : Nat → Int32} {K28 : Int32 → gV → Int32 × gV} {PK28 : Int32 → gV → Prop} {x5 : Int32} {B : Nat} (hB : B < 33000) (v1 : vp_in (x5 + (1 : Int32)) N) (v2 : vp_in (x5 + (2 : Int32)) N) (v3 : vp_in (x5 + (3 : Int32)) N) (v4 : vp_in (x5 + (4 : Int32)) N) (hK : ∀ u, J (B + 64) u → PK28 (x5 + 5) u ∧ (K28 (x5 + 5) u).1 = 1) {v : gV} (hJ : J B v) : p_L_law_1845 N xs K28 PK28 x5 v ∧ (f_L_law_1845 N xs K28 x5 v).1 = 1 := by
  have h := op_int (Ans_rd (R_ownPart (xs (x5 + (1 : Int32)).toNatClampNeg) (B := B))) (H1 "java/util/NoSuchElementException") (Q1 "java/util/NoSuchElementException") (HQ1 (by decide +kernel)) (K28 (x5 + 5)) (PK28 (x5 + 5)) hK hJ (fL := f_L_ownPart (xs (x5 + (1 : Int32)).toNatClampNeg)) (pL := p_L_ownPart (xs (x5 + (1 : Int32)).toNatClampNeg)) rfl rfl
  rw [p_L_law_1845, f_L_law_1845, p_L_law_1856, f_L_law_1856]
  exact ⟨⟨v1, h.1, v1, h.2.1, h.2.2.1⟩, h.2.2.2⟩
theorem op_29 {N : Nat} {xs : Nat → Int32} {K28 : Int32 → gV → Int32 × gV} {PK28 : Int32 → gV → Prop} {x5 : Int32} {B : Nat} (hB : B < 33000) (v1 : vp_in (x5 + (1 : Int32)) N) (v2 : vp_in (x5 + (2 : Int32)) N) (v3 : vp_in (x5 + (3 : Int32)) N) (v4 : vp_in (x5 + (4 : Int32)) N) (hK : ∀ u, J (B + 64) u → PK28 (x5 + 5) u ∧ (K28 (x5 + 5) u).1 = 1) {v : gV} (hJ : J B v) : p_L_law_1901 N xs K28 PK28 x5 v ∧ (f_L_law_1901 N xs K28 x5 v).1 = 1 := by
  have h := op_int (Ans_rd (R_recovered (xs (x5 + (1 : Int32)).toNatClampNeg) (B := B))) (H1 "java/util/NoSuchElementException") (Q1 "java/util/NoSuchElementException") (HQ1 (by decide +kernel)) (K28 (x5 + 5)) (PK28 (x5 + 5)) hK hJ (fL := f_L_recovered (xs (x5 + (1 : Int32)).toNatClampNeg)) (pL := p_L_recovered (xs (x5 + (1 : Int32)).toNatClampNeg)) rfl rfl
  rw [p_L_law_1901, f_L_law_1901, p_L_law_1912, f_L_law_1912]
  exact ⟨⟨v1, h.1, v1, h.2.1, h.2.2.1⟩, h.2.2.2⟩
theorem op_30 {N : Nat} {xs : Nat → Int32} {K28 : Int32 → gV → Int32 × gV} {PK28 : Int32 → gV → Prop} {x5 : Int32} {B : Nat} (hB : B < 33000) (v1 : vp_in (x5 + (1 : Int32)) N) (v2 : vp_in (x5 + (2 : Int32)) N) (v3 : vp_in (x5 + (3 : Int32)) N) (v4 : vp_in (x5 + (4 : Int32)) N) (hK : ∀ u, J (B + 64) u → PK28 (x5 + 5) u ∧ (K28 (x5 + 5) u).1 = 1) {v : gV} (hJ : J B v) : p_L_law_1957 N xs K28 PK28 x5 v ∧ (f_L_law_1957 N xs K28 x5 v).1 = 1 := by
  obtain ⟨np, nc, nt, no, hbr⟩ := hJ.1
  obtain ⟨k1, k2, k3⟩ := R_treatyCount (B := B) v np nc nt no hbr
  have h := hK _ (J_thr hJ)
  rw [p_L_law_1957, f_L_law_1957, k3]
  rw [p_L_law_1965, f_L_law_1965, if_pos rfl]
  exact ⟨⟨k1, k2, fun _ => h.1, fun g => absurd rfl g⟩, h.2⟩
theorem op_31 {N : Nat} {xs : Nat → Int32} {K28 : Int32 → gV → Int32 × gV} {PK28 : Int32 → gV → Prop} {x5 : Int32} {B : Nat} (hB : B < 33000) (v1 : vp_in (x5 + (1 : Int32)) N) (v2 : vp_in (x5 + (2 : Int32)) N) (v3 : vp_in (x5 + (3 : Int32)) N) (v4 : vp_in (x5 + (4 : Int32)) N) (hK : ∀ u, J (B + 64) u → PK28 (x5 + 5) u ∧ (K28 (x5 + 5) u).1 = 1) {v : gV} (hJ : J B v) : p_L_law_1970 N xs K28 PK28 x5 v ∧ (f_L_law_1970 N xs K28 x5 v).1 = 1 := by
  have h := op_int (Ans_rd (R_startOf (xs (x5 + (1 : Int32)).toNatClampNeg) (B := B))) (H1 "java/lang/IndexOutOfBoundsException") (Q1 "java/lang/IndexOutOfBoundsException") (HQ1 (by decide +kernel)) (K28 (x5 + 5)) (PK28 (x5 + 5)) hK hJ (fL := f_L_startOf (xs (x5 + (1 : Int32)).toNatClampNeg)) (pL := p_L_startOf (xs (x5 + (1 : Int32)).toNatClampNeg)) rfl rfl
  rw [p_L_law_1970, f_L_law_1970, p_L_law_1981, f_L_law_1981]
  exact ⟨⟨v1, h.1, v1, h.2.1, h.2.2.1⟩, h.2.2.2⟩
theorem op_32 {N : Nat} {xs : Nat → Int32} {K28 : Int32 → gV → Int32 × gV} {PK28 : Int32 → gV → Prop} {x5 : Int32} {B : Nat} (hB : B < 33000) (v1 : vp_in (x5 + (1 : Int32)) N) (v2 : vp_in (x5 + (2 : Int32)) N) (v3 : vp_in (x5 + (3 : Int32)) N) (v4 : vp_in (x5 + (4 : Int32)) N) (hK : ∀ u, J (B + 64) u → PK28 (x5 + 5) u ∧ (K28 (x5 + 5) u).1 = 1) {v : gV} (hJ : J B v) : p_L_law_2026 N xs K28 PK28 x5 v ∧ (f_L_law_2026 N xs K28 x5 v).1 = 1 := by
  have h := op_int (Ans_rd (R_capacityOf (xs (x5 + (1 : Int32)).toNatClampNeg) (B := B))) (H1 "java/lang/IndexOutOfBoundsException") (Q1 "java/lang/IndexOutOfBoundsException") (HQ1 (by decide +kernel)) (K28 (x5 + 5)) (PK28 (x5 + 5)) hK hJ (fL := f_L_capacityOf (xs (x5 + (1 : Int32)).toNatClampNeg)) (pL := p_L_capacityOf (xs (x5 + (1 : Int32)).toNatClampNeg)) rfl rfl
  rw [p_L_law_2026, f_L_law_2026, p_L_law_2037, f_L_law_2037]
  exact ⟨⟨v1, h.1, v1, h.2.1, h.2.2.1⟩, h.2.2.2⟩
theorem op_33 {N : Nat} {xs : Nat → Int32} {K28 : Int32 → gV → Int32 × gV} {PK28 : Int32 → gV → Prop} {x5 : Int32} {B : Nat} (hB : B < 33000) (v1 : vp_in (x5 + (1 : Int32)) N) (v2 : vp_in (x5 + (2 : Int32)) N) (v3 : vp_in (x5 + (3 : Int32)) N) (v4 : vp_in (x5 + (4 : Int32)) N) (hK : ∀ u, J (B + 64) u → PK28 (x5 + 5) u ∧ (K28 (x5 + 5) u).1 = 1) {v : gV} (hJ : J B v) : p_L_law_2082 N xs K28 PK28 x5 v ∧ (f_L_law_2082 N xs K28 x5 v).1 = 1 := by
  have h := op_int (Ans_rd (R_borne (xs (x5 + (1 : Int32)).toNatClampNeg) (B := B))) (H1 "java/lang/IllegalArgumentException") (Q1 "java/lang/IllegalArgumentException") (HQ1 (by decide +kernel)) (K28 (x5 + 5)) (PK28 (x5 + 5)) hK hJ (fL := f_L_borne (xs (x5 + (1 : Int32)).toNatClampNeg)) (pL := p_L_borne (xs (x5 + (1 : Int32)).toNatClampNeg)) rfl rfl
  rw [p_L_law_2082, f_L_law_2082, p_L_law_2093, f_L_law_2093]
  exact ⟨⟨v1, h.1, v1, h.2.1, h.2.2.1⟩, h.2.2.2⟩
theorem op_34 {N : Nat} {xs : Nat → Int32} {K28 : Int32 → gV → Int32 × gV} {PK28 : Int32 → gV → Prop} {x5 : Int32} {B : Nat} (hB : B < 33000) (v1 : vp_in (x5 + (1 : Int32)) N) (v2 : vp_in (x5 + (2 : Int32)) N) (v3 : vp_in (x5 + (3 : Int32)) N) (v4 : vp_in (x5 + (4 : Int32)) N) (hK : ∀ u, J (B + 64) u → PK28 (x5 + 5) u ∧ (K28 (x5 + 5) u).1 = 1) {v : gV} (hJ : J B v) : p_L_law_2138 N xs K28 PK28 x5 v ∧ (f_L_law_2138 N xs K28 x5 v).1 = 1 := by
  have h := op_int (Ans_rd (R_borneByCoins (xs (x5 + (1 : Int32)).toNatClampNeg) (B := B))) (H1 "java/lang/IllegalArgumentException") (Q1 "java/lang/IllegalArgumentException") (HQ1 (by decide +kernel)) (K28 (x5 + 5)) (PK28 (x5 + 5)) hK hJ (fL := f_L_borneByCoins (xs (x5 + (1 : Int32)).toNatClampNeg)) (pL := p_L_borneByCoins (xs (x5 + (1 : Int32)).toNatClampNeg)) rfl rfl
  rw [p_L_law_2138, f_L_law_2138, p_L_law_2149, f_L_law_2149]
  exact ⟨⟨v1, h.1, v1, h.2.1, h.2.2.1⟩, h.2.2.2⟩
theorem op_35 {N : Nat} {xs : Nat → Int32} {K28 : Int32 → gV → Int32 × gV} {PK28 : Int32 → gV → Prop} {x5 : Int32} {B : Nat} (hB : B < 33000) (v1 : vp_in (x5 + (1 : Int32)) N) (v2 : vp_in (x5 + (2 : Int32)) N) (v3 : vp_in (x5 + (3 : Int32)) N) (v4 : vp_in (x5 + (4 : Int32)) N) (hK : ∀ u, J (B + 64) u → PK28 (x5 + 5) u ∧ (K28 (x5 + 5) u).1 = 1) {v : gV} (hJ : J B v) : p_L_law_2194 N xs K28 PK28 x5 v ∧ (f_L_law_2194 N xs K28 x5 v).1 = 1 := by
  obtain ⟨np, nc, nt, no, hbr⟩ := hJ.1
  obtain ⟨k1, k2, k3⟩ := R_outcomes (B := B) v np nc nt no hbr
  have h := hK _ (J_thr hJ)
  rw [p_L_law_2194, f_L_law_2194, k3]
  have e : lg_cmp (f_X11_outcomes v) (f_X11_outcomes v) = 0 := (lg_cmp_eq _ _).mpr rfl
  rw [p_L_law_2202, f_L_law_2202, if_pos e]
  exact ⟨⟨k1, k2, fun _ => h.1, fun g => absurd e g⟩, h.2⟩
theorem op_36 {N : Nat} {xs : Nat → Int32} {K28 : Int32 → gV → Int32 × gV} {PK28 : Int32 → gV → Prop} {x5 : Int32} {B : Nat} (hB : B < 33000) (v1 : vp_in (x5 + (1 : Int32)) N) (v2 : vp_in (x5 + (2 : Int32)) N) (v3 : vp_in (x5 + (3 : Int32)) N) (v4 : vp_in (x5 + (4 : Int32)) N) (hK : ∀ u, J (B + 64) u → PK28 (x5 + 5) u ∧ (K28 (x5 + 5) u).1 = 1) {v : gV} (hJ : J B v) : p_L_law_2208 N xs K28 PK28 x5 v ∧ (f_L_law_2208 N xs K28 x5 v).1 = 1 := by
  have h := op_gen (Ans_rd (R_outcomesWithin (xs (x5 + (1 : Int32)).toNatClampNeg) (B := B))) sFl psl (H1 "java/lang/IllegalArgumentException") (Q1 "java/lang/IllegalArgumentException") (HQ1 (by decide +kernel)) (fun u r _ => ⟨⟨in01, trivial⟩, rfl, rfl⟩) (K28 (x5 + 5)) (PK28 (x5 + 5)) hK (cFl (K28 (x5 + 5))) (cPl (PK28 (x5 + 5))) (fun u r w _ hw => hc_l _ _ u r w hw) hJ
  have e1 : lF sFl (H1 "java/lang/IllegalArgumentException") (f_X11_outcomesWithin (xs (x5 + (1 : Int32)).toNatClampNeg)) = f_L_outcomesWithin (xs (x5 + (1 : Int32)).toNatClampNeg) := rfl
  have e2 : lP psl (Q1 "java/lang/IllegalArgumentException") (f_X11_outcomesWithin (xs (x5 + (1 : Int32)).toNatClampNeg)) (p_X11_outcomesWithin (xs (x5 + (1 : Int32)).toNatClampNeg)) = p_L_outcomesWithin (xs (x5 + (1 : Int32)).toNatClampNeg) := rfl
  rw [e1, e2] at h
  rw [p_L_law_2208, f_L_law_2208, p_L_law_2219, f_L_law_2219]
  exact ⟨⟨v1, h.1, v1, h.2.1, h.2.2.1⟩, h.2.2.2⟩
theorem op_37 {N : Nat} {xs : Nat → Int32} {K28 : Int32 → gV → Int32 × gV} {PK28 : Int32 → gV → Prop} {x5 : Int32} {B : Nat} (hB : B < 33000) (v1 : vp_in (x5 + (1 : Int32)) N) (v2 : vp_in (x5 + (2 : Int32)) N) (v3 : vp_in (x5 + (3 : Int32)) N) (v4 : vp_in (x5 + (4 : Int32)) N) (hK : ∀ u, J (B + 64) u → PK28 (x5 + 5) u ∧ (K28 (x5 + 5) u).1 = 1) {v : gV} (hJ : J B v) : p_L_law_2263 N xs K28 PK28 x5 v ∧ (f_L_law_2263 N xs K28 x5 v).1 = 1 := by
  have h := op_gen (Ans_rd (R_outcomesWithinBySets (xs (x5 + (1 : Int32)).toNatClampNeg) (B := B))) sFl psl (H1 "java/lang/IllegalArgumentException") (Q1 "java/lang/IllegalArgumentException") (HQ1 (by decide +kernel)) (fun u r _ => ⟨⟨in01, trivial⟩, rfl, rfl⟩) (K28 (x5 + 5)) (PK28 (x5 + 5)) hK (cFl (K28 (x5 + 5))) (cPl (PK28 (x5 + 5))) (fun u r w _ hw => hc_l _ _ u r w hw) hJ
  have e1 : lF sFl (H1 "java/lang/IllegalArgumentException") (fun v => (f_X11_outcomesWithinBySets (xs (x5 + (1 : Int32)).toNatClampNeg) v, v)) = f_L_outcomesWithinBySets (xs (x5 + (1 : Int32)).toNatClampNeg) := rfl
  have e2 : lP psl (Q1 "java/lang/IllegalArgumentException") (fun v => (f_X11_outcomesWithinBySets (xs (x5 + (1 : Int32)).toNatClampNeg) v, v)) (p_X11_outcomesWithinBySets (xs (x5 + (1 : Int32)).toNatClampNeg)) = p_L_outcomesWithinBySets (xs (x5 + (1 : Int32)).toNatClampNeg) := rfl
  rw [e1, e2] at h
  rw [p_L_law_2263, f_L_law_2263, p_L_law_2274, f_L_law_2274]
  exact ⟨⟨v1, h.1, v1, h.2.1, h.2.2.1⟩, h.2.2.2⟩
theorem op_38 {N : Nat} {xs : Nat → Int32} {K28 : Int32 → gV → Int32 × gV} {PK28 : Int32 → gV → Prop} {x5 : Int32} {B : Nat} (hB : B < 33000) (v1 : vp_in (x5 + (1 : Int32)) N) (v2 : vp_in (x5 + (2 : Int32)) N) (v3 : vp_in (x5 + (3 : Int32)) N) (v4 : vp_in (x5 + (4 : Int32)) N) (hK : ∀ u, J (B + 64) u → PK28 (x5 + 5) u ∧ (K28 (x5 + 5) u).1 = 1) {v : gV} (hJ : J B v) : p_L_law_2318 N xs K28 PK28 x5 v ∧ (f_L_law_2318 N xs K28 x5 v).1 = 1 := by
  obtain ⟨np, nc, nt, no, hbr⟩ := hJ.1
  obtain ⟨k1, k2, k3⟩ := R_greatestLoss (B := B) v np nc nt no hbr
  have h := hK _ (J_thr hJ)
  rw [p_L_law_2318, f_L_law_2318, k3]
  rw [p_L_law_2326, f_L_law_2326, if_pos rfl]
  exact ⟨⟨k1, k2, fun _ => h.1, fun g => absurd rfl g⟩, h.2⟩
theorem op_39 {N : Nat} {xs : Nat → Int32} {K28 : Int32 → gV → Int32 × gV} {PK28 : Int32 → gV → Prop} {x5 : Int32} {B : Nat} (hB : B < 33000) (v1 : vp_in (x5 + (1 : Int32)) N) (v2 : vp_in (x5 + (2 : Int32)) N) (v3 : vp_in (x5 + (3 : Int32)) N) (v4 : vp_in (x5 + (4 : Int32)) N) (hK : ∀ u, J (B + 64) u → PK28 (x5 + 5) u ∧ (K28 (x5 + 5) u).1 = 1) {v : gV} (hJ : J B v) : p_L_law_2331 N xs K28 PK28 x5 v ∧ (f_L_law_2331 N xs K28 x5 v).1 = 1 := by
  have h := op_int (Ans_rd (R_paidIn (xs (x5 + (1 : Int32)).toNatClampNeg) (xs (x5 + (2 : Int32)).toNatClampNeg) (B := B))) (H1 "java/lang/IllegalArgumentException") (Q1 "java/lang/IllegalArgumentException") (HQ1 (by decide +kernel)) (K28 (x5 + 5)) (PK28 (x5 + 5)) hK hJ (fL := f_L_paidIn (xs (x5 + (1 : Int32)).toNatClampNeg) (xs (x5 + (2 : Int32)).toNatClampNeg)) (pL := p_L_paidIn (xs (x5 + (1 : Int32)).toNatClampNeg) (xs (x5 + (2 : Int32)).toNatClampNeg)) rfl rfl
  rw [p_L_law_2331, f_L_law_2331, p_L_law_2348, f_L_law_2348]
  exact ⟨⟨v1, v2, h.1, v1, v2, h.2.1, h.2.2.1⟩, h.2.2.2⟩
theorem op_40 {N : Nat} {xs : Nat → Int32} {K28 : Int32 → gV → Int32 × gV} {PK28 : Int32 → gV → Prop} {x5 : Int32} {B : Nat} (hB : B < 33000) (v1 : vp_in (x5 + (1 : Int32)) N) (v2 : vp_in (x5 + (2 : Int32)) N) (v3 : vp_in (x5 + (3 : Int32)) N) (v4 : vp_in (x5 + (4 : Int32)) N) (hK : ∀ u, J (B + 64) u → PK28 (x5 + 5) u ∧ (K28 (x5 + 5) u).1 = 1) {v : gV} (hJ : J B v) : p_L_law_2399 N xs K28 PK28 x5 v ∧ (f_L_law_2399 N xs K28 x5 v).1 = 1 := by
  obtain ⟨np, nc, nt, no, hbr⟩ := hJ.1
  obtain ⟨k1, k2, k3⟩ := R_lastPeriod (B := B) v np nc nt no hbr
  have h := hK _ (J_thr hJ)
  rw [p_L_law_2399, f_L_law_2399, k3]
  rw [p_L_law_2407, f_L_law_2407, if_pos rfl]
  exact ⟨⟨k1, k2, fun _ => h.1, fun g => absurd rfl g⟩, h.2⟩
theorem op_41 {N : Nat} {xs : Nat → Int32} {K28 : Int32 → gV → Int32 × gV} {PK28 : Int32 → gV → Prop} {x5 : Int32} {B : Nat} (hB : B < 33000) (v1 : vp_in (x5 + (1 : Int32)) N) (v2 : vp_in (x5 + (2 : Int32)) N) (v3 : vp_in (x5 + (3 : Int32)) N) (v4 : vp_in (x5 + (4 : Int32)) N) (hK : ∀ u, J (B + 64) u → PK28 (x5 + 5) u ∧ (K28 (x5 + 5) u).1 = 1) {v : gV} (hJ : J B v) : p_L_law_2412 N xs K28 PK28 x5 v ∧ (f_L_law_2412 N xs K28 x5 v).1 = 1 := by
  have h := op_int (Ans_rd (R_projected (xs (x5 + (1 : Int32)).toNatClampNeg) (B := B) (by omega))) (H1 "java/lang/IllegalArgumentException") (Q1 "java/lang/IllegalArgumentException") (HQ1 (by decide +kernel)) (K28 (x5 + 5)) (PK28 (x5 + 5)) hK hJ (fL := f_L_projected (xs (x5 + (1 : Int32)).toNatClampNeg)) (pL := p_L_projected (xs (x5 + (1 : Int32)).toNatClampNeg)) rfl rfl
  rw [p_L_law_2412, f_L_law_2412, p_L_law_2423, f_L_law_2423]
  exact ⟨⟨v1, h.1, v1, h.2.1, h.2.2.1⟩, h.2.2.2⟩
theorem op_42 {N : Nat} {xs : Nat → Int32} {K28 : Int32 → gV → Int32 × gV} {PK28 : Int32 → gV → Prop} {x5 : Int32} {B : Nat} (hB : B < 33000) (v1 : vp_in (x5 + (1 : Int32)) N) (v2 : vp_in (x5 + (2 : Int32)) N) (v3 : vp_in (x5 + (3 : Int32)) N) (v4 : vp_in (x5 + (4 : Int32)) N) (hK : ∀ u, J (B + 64) u → PK28 (x5 + 5) u ∧ (K28 (x5 + 5) u).1 = 1) {v : gV} (hJ : J B v) : p_L_law_2468 N xs K28 PK28 x5 v ∧ (f_L_law_2468 N xs K28 x5 v).1 = 1 := by
  have h := op_int (Ans_rd (R_projectedByRecursion (xs (x5 + (1 : Int32)).toNatClampNeg) (B := B) (by omega))) (H1 "java/lang/IllegalArgumentException") (Q1 "java/lang/IllegalArgumentException") (HQ1 (by decide +kernel)) (K28 (x5 + 5)) (PK28 (x5 + 5)) hK hJ (fL := f_L_projectedByRecursion (xs (x5 + (1 : Int32)).toNatClampNeg)) (pL := p_L_projectedByRecursion (xs (x5 + (1 : Int32)).toNatClampNeg)) rfl rfl
  rw [p_L_law_2468, f_L_law_2468, p_L_law_2479, f_L_law_2479]
  exact ⟨⟨v1, h.1, v1, h.2.1, h.2.2.1⟩, h.2.2.2⟩
theorem op_43 {N : Nat} {xs : Nat → Int32} {K28 : Int32 → gV → Int32 × gV} {PK28 : Int32 → gV → Prop} {x5 : Int32} {B : Nat} (hB : B < 33000) (v1 : vp_in (x5 + (1 : Int32)) N) (v2 : vp_in (x5 + (2 : Int32)) N) (v3 : vp_in (x5 + (3 : Int32)) N) (v4 : vp_in (x5 + (4 : Int32)) N) (hK : ∀ u, J (B + 64) u → PK28 (x5 + 5) u ∧ (K28 (x5 + 5) u).1 = 1) {v : gV} (hJ : J B v) : p_L_law_2524 N xs K28 PK28 x5 v ∧ (f_L_law_2524 N xs K28 x5 v).1 = 1 := by
  obtain ⟨np, nc, nt, no, hbr⟩ := hJ.1
  obtain ⟨k1, k2, k3⟩ := R_reserve (B := B) (by omega) v np nc nt no hbr
  have h := hK _ (J_thr hJ)
  rw [p_L_law_2524, f_L_law_2524, k3]
  rw [p_L_law_2532, f_L_law_2532, if_pos rfl]
  exact ⟨⟨k1, k2, fun _ => h.1, fun g => absurd rfl g⟩, h.2⟩
theorem op_44 {N : Nat} {xs : Nat → Int32} {K28 : Int32 → gV → Int32 × gV} {PK28 : Int32 → gV → Prop} {x5 : Int32} {B : Nat} (hB : B < 33000) (v1 : vp_in (x5 + (1 : Int32)) N) (v2 : vp_in (x5 + (2 : Int32)) N) (v3 : vp_in (x5 + (3 : Int32)) N) (v4 : vp_in (x5 + (4 : Int32)) N) (hK : ∀ u, J (B + 64) u → PK28 (x5 + 5) u ∧ (K28 (x5 + 5) u).1 = 1) {v : gV} (hJ : J B v) : p_L_law_2537 N xs K28 PK28 x5 v ∧ (f_L_law_2537 N xs K28 x5 v).1 = 1 := by
  obtain ⟨np, nc, nt, no, hbr⟩ := hJ.1
  obtain ⟨k1, k2, k3⟩ := R_offerCount (B := B) v np nc nt no hbr
  have h := hK _ (J_thr hJ)
  rw [p_L_law_2537, f_L_law_2537, k3]
  rw [p_L_law_2545, f_L_law_2545, if_pos rfl]
  exact ⟨⟨k1, k2, fun _ => h.1, fun g => absurd rfl g⟩, h.2⟩
theorem op_45 {N : Nat} {xs : Nat → Int32} {K28 : Int32 → gV → Int32 × gV} {PK28 : Int32 → gV → Prop} {x5 : Int32} {B : Nat} (hB : B < 33000) (v1 : vp_in (x5 + (1 : Int32)) N) (v2 : vp_in (x5 + (2 : Int32)) N) (v3 : vp_in (x5 + (3 : Int32)) N) (v4 : vp_in (x5 + (4 : Int32)) N) (hK : ∀ u, J (B + 64) u → PK28 (x5 + 5) u ∧ (K28 (x5 + 5) u).1 = 1) {v : gV} (hJ : J B v) : p_L_law_2550 N xs K28 PK28 x5 v ∧ (f_L_law_2550 N xs K28 x5 v).1 = 1 := by
  have h := op_int (Ans_rd (R_cheapestCover (xs (x5 + (1 : Int32)).toNatClampNeg) (xs (x5 + (2 : Int32)).toNatClampNeg) (B := B))) (H2 "java/lang/IllegalArgumentException" "java/util/NoSuchElementException") (Q2 "java/lang/IllegalArgumentException" "java/util/NoSuchElementException") (HQ2 (by decide +kernel) (by decide +kernel) (by decide +kernel)) (K28 (x5 + 5)) (PK28 (x5 + 5)) hK hJ (fL := f_L_cheapestCover (xs (x5 + (1 : Int32)).toNatClampNeg) (xs (x5 + (2 : Int32)).toNatClampNeg)) (pL := p_L_cheapestCover (xs (x5 + (1 : Int32)).toNatClampNeg) (xs (x5 + (2 : Int32)).toNatClampNeg)) rfl rfl
  rw [p_L_law_2550, f_L_law_2550, p_L_law_2567, f_L_law_2567]
  exact ⟨⟨v1, v2, h.1, v1, v2, h.2.1, h.2.2.1⟩, h.2.2.2⟩
theorem op_46 {N : Nat} {xs : Nat → Int32} {K28 : Int32 → gV → Int32 × gV} {PK28 : Int32 → gV → Prop} {x5 : Int32} {B : Nat} (hB : B < 33000) (v1 : vp_in (x5 + (1 : Int32)) N) (v2 : vp_in (x5 + (2 : Int32)) N) (v3 : vp_in (x5 + (3 : Int32)) N) (v4 : vp_in (x5 + (4 : Int32)) N) (hK : ∀ u, J (B + 64) u → PK28 (x5 + 5) u ∧ (K28 (x5 + 5) u).1 = 1) {v : gV} (hJ : J B v) : p_L_law_2618 N xs K28 PK28 x5 v ∧ (f_L_law_2618 N xs K28 x5 v).1 = 1 := by
  have h := op_int (Ans_rd (R_cheapestCoverBySets (xs (x5 + (1 : Int32)).toNatClampNeg) (xs (x5 + (2 : Int32)).toNatClampNeg) (B := B))) (H2 "java/lang/IllegalArgumentException" "java/util/NoSuchElementException") (Q2 "java/lang/IllegalArgumentException" "java/util/NoSuchElementException") (HQ2 (by decide +kernel) (by decide +kernel) (by decide +kernel)) (K28 (x5 + 5)) (PK28 (x5 + 5)) hK hJ (fL := f_L_cheapestCoverBySets (xs (x5 + (1 : Int32)).toNatClampNeg) (xs (x5 + (2 : Int32)).toNatClampNeg)) (pL := p_L_cheapestCoverBySets (xs (x5 + (1 : Int32)).toNatClampNeg) (xs (x5 + (2 : Int32)).toNatClampNeg)) rfl rfl
  rw [p_L_law_2618, f_L_law_2618, p_L_law_2635, f_L_law_2635]
  exact ⟨⟨v1, v2, h.1, v1, v2, h.2.1, h.2.2.1⟩, h.2.2.2⟩
theorem op_47 {N : Nat} {xs : Nat → Int32} {K28 : Int32 → gV → Int32 × gV} {PK28 : Int32 → gV → Prop} {x5 : Int32} {B : Nat} (hB : B < 33000) (v1 : vp_in (x5 + (1 : Int32)) N) (v2 : vp_in (x5 + (2 : Int32)) N) (v3 : vp_in (x5 + (3 : Int32)) N) (v4 : vp_in (x5 + (4 : Int32)) N) (hK : ∀ u, J (B + 64) u → PK28 (x5 + 5) u ∧ (K28 (x5 + 5) u).1 = 1) {v : gV} (hJ : J B v) : p_L_law_2686 N xs K28 PK28 x5 v ∧ (f_L_law_2686 N xs K28 x5 v).1 = 1 := by
  have h := op_int (Ans_rd (R_policyByLoad (xs (x5 + (1 : Int32)).toNatClampNeg) (B := B))) (H1 "java/util/NoSuchElementException") (Q1 "java/util/NoSuchElementException") (HQ1 (by decide +kernel)) (K28 (x5 + 5)) (PK28 (x5 + 5)) hK hJ (fL := f_L_policyByLoad (xs (x5 + (1 : Int32)).toNatClampNeg)) (pL := p_L_policyByLoad (xs (x5 + (1 : Int32)).toNatClampNeg)) rfl rfl
  rw [p_L_law_2686, f_L_law_2686, p_L_law_2697, f_L_law_2697]
  exact ⟨⟨v1, h.1, v1, h.2.1, h.2.2.1⟩, h.2.2.2⟩
theorem op_48 {N : Nat} {xs : Nat → Int32} {K28 : Int32 → gV → Int32 × gV} {PK28 : Int32 → gV → Prop} {x5 : Int32} {B : Nat} (hB : B < 33000) (v1 : vp_in (x5 + (1 : Int32)) N) (v2 : vp_in (x5 + (2 : Int32)) N) (v3 : vp_in (x5 + (3 : Int32)) N) (v4 : vp_in (x5 + (4 : Int32)) N) (hK : ∀ u, J (B + 64) u → PK28 (x5 + 5) u ∧ (K28 (x5 + 5) u).1 = 1) {v : gV} (hJ : J B v) : p_L_law_2742 N xs K28 PK28 x5 v ∧ (f_L_law_2742 N xs K28 x5 v).1 = 1 := by
  have h := op_int (Ans_rd (R_claimByUnpaid (xs (x5 + (1 : Int32)).toNatClampNeg) (B := B))) (H1 "java/util/NoSuchElementException") (Q1 "java/util/NoSuchElementException") (HQ1 (by decide +kernel)) (K28 (x5 + 5)) (PK28 (x5 + 5)) hK hJ (fL := f_L_claimByUnpaid (xs (x5 + (1 : Int32)).toNatClampNeg)) (pL := p_L_claimByUnpaid (xs (x5 + (1 : Int32)).toNatClampNeg)) rfl rfl
  rw [p_L_law_2742, f_L_law_2742, p_L_law_2753, f_L_law_2753]
  exact ⟨⟨v1, h.1, v1, h.2.1, h.2.2.1⟩, h.2.2.2⟩
theorem op_49 {N : Nat} {xs : Nat → Int32} {K28 : Int32 → gV → Int32 × gV} {PK28 : Int32 → gV → Prop} {x5 : Int32} {B : Nat} (hB : B < 33000) (v1 : vp_in (x5 + (1 : Int32)) N) (v2 : vp_in (x5 + (2 : Int32)) N) (v3 : vp_in (x5 + (3 : Int32)) N) (v4 : vp_in (x5 + (4 : Int32)) N) (hK : ∀ u, J (B + 64) u → PK28 (x5 + 5) u ∧ (K28 (x5 + 5) u).1 = 1) {v : gV} (hJ : J B v) : p_L_law_2798 N xs K28 PK28 x5 v ∧ (f_L_law_2798 N xs K28 x5 v).1 = 1 := by
  have h := op_gen (Ans_rd (R_meanSum (B := B))) sFd psd (H1 "java/lang/ArithmeticException") (Q1 "java/lang/ArithmeticException") (HQ1 (by decide +kernel)) (fun u r _ => ⟨⟨in01, trivial⟩, rfl, rfl⟩) (K28 (x5 + 5)) (PK28 (x5 + 5)) hK (cFd (K28 (x5 + 5))) (cPd (PK28 (x5 + 5))) (fun u r w hr hw => hc_d _ _ u r w hr hw) hJ
  have e1 : lF sFd (H1 "java/lang/ArithmeticException") (fun v => (f_X11_meanSum v, v)) = f_L_meanSum := rfl
  have e2 : lP psd (Q1 "java/lang/ArithmeticException") (fun v => (f_X11_meanSum v, v)) (p_X11_meanSum) = p_L_meanSum := rfl
  rw [e1, e2] at h
  rw [p_L_law_2798, f_L_law_2798, p_L_law_2804, f_L_law_2804]
  exact ⟨⟨h.1, h.2.1, h.2.2.1⟩, h.2.2.2⟩
theorem op_50 {N : Nat} {xs : Nat → Int32} {K28 : Int32 → gV → Int32 × gV} {PK28 : Int32 → gV → Prop} {x5 : Int32} {B : Nat} (hB : B < 33000) (v1 : vp_in (x5 + (1 : Int32)) N) (v2 : vp_in (x5 + (2 : Int32)) N) (v3 : vp_in (x5 + (3 : Int32)) N) (v4 : vp_in (x5 + (4 : Int32)) N) (hK : ∀ u, J (B + 64) u → PK28 (x5 + 5) u ∧ (K28 (x5 + 5) u).1 = 1) {v : gV} (hJ : J B v) : p_L_law_2863 N xs K28 PK28 x5 v ∧ (f_L_law_2863 N xs K28 x5 v).1 = 1 := by
  have h := op_gen (Ans_rd (R_paidShare (B := B))) sFf psf (H1 "java/lang/ArithmeticException") (Q1 "java/lang/ArithmeticException") (HQ1 (by decide +kernel)) (fun u r hr => ⟨⟨n64_ok (f2d_ok hr), in01, trivial⟩, rfl, rfl⟩) (K28 (x5 + 5)) (PK28 (x5 + 5)) hK (cFf (K28 (x5 + 5))) (cPf (PK28 (x5 + 5))) (fun u r w hr hw => hc_f _ _ u r w hr hw) hJ
  have e1 : lF sFf (H1 "java/lang/ArithmeticException") (fun v => (f_X11_paidShare v, v)) = f_L_paidShare := rfl
  have e2 : lP psf (Q1 "java/lang/ArithmeticException") (fun v => (f_X11_paidShare v, v)) (p_X11_paidShare) = p_L_paidShare := rfl
  rw [e1, e2] at h
  rw [p_L_law_2863, f_L_law_2863, p_L_law_2869, f_L_law_2869]
  exact ⟨⟨h.1, h.2.1, h.2.2.1⟩, h.2.2.2⟩
theorem op_51 {N : Nat} {xs : Nat → Int32} {K28 : Int32 → gV → Int32 × gV} {PK28 : Int32 → gV → Prop} {x5 : Int32} {B : Nat} (hB : B < 33000) (v1 : vp_in (x5 + (1 : Int32)) N) (v2 : vp_in (x5 + (2 : Int32)) N) (v3 : vp_in (x5 + (3 : Int32)) N) (v4 : vp_in (x5 + (4 : Int32)) N) (hK : ∀ u, J (B + 64) u → PK28 (x5 + 5) u ∧ (K28 (x5 + 5) u).1 = 1) {v : gV} (hJ : J B v) : p_L_law_2929 N xs K28 PK28 x5 v ∧ (f_L_law_2929 N xs K28 x5 v).1 = 1 := by
  obtain ⟨np, nc, nt, no, hbr⟩ := hJ.1
  obtain ⟨k1, u, k2, k3⟩ := K_consistent (by omega) hbr
  obtain ⟨k4, k5⟩ := K_consistent12 u
  have h := hK _ (J_thr (hJ.sc k3))
  rw [p_L_law_2929, f_L_law_2929, k2, p_L_law_2933, f_L_law_2933]
  show (p_X11_isConsistent v ∧ p_X12_isConsistent u ∧ p_L_law_2937 N xs K28 PK28 x5 (f_X12_isConsistent u).1 1 (f_X12_isConsistent u).2) ∧ (f_L_law_2937 N xs K28 x5 (f_X12_isConsistent u).1 1 (f_X12_isConsistent u).2).1 = 1
  rw [k5, p_L_law_2937, f_L_law_2937, if_pos rfl]
  exact ⟨⟨k1, k4, fun _ => h.1, fun g => absurd rfl g⟩, h.2⟩
theorem op_52 {N : Nat} {xs : Nat → Int32} {K28 : Int32 → gV → Int32 × gV} {PK28 : Int32 → gV → Prop} {x5 : Int32} {B : Nat} (hB : B < 33000) (v1 : vp_in (x5 + (1 : Int32)) N) (v2 : vp_in (x5 + (2 : Int32)) N) (v3 : vp_in (x5 + (3 : Int32)) N) (v4 : vp_in (x5 + (4 : Int32)) N) (hK : ∀ u, J (B + 64) u → PK28 (x5 + 5) u ∧ (K28 (x5 + 5) u).1 = 1) {v : gV} (hJ : J B v) : p_L_law_2942 N xs K28 PK28 x5 v ∧ (f_L_law_2942 N xs K28 x5 v).1 = 1 := by
  have h := op_int (A_writePolicy (xs (x5 + (1 : Int32)).toNatClampNeg) (B := B) (by omega)) (H1 "java/util/NoSuchElementException") (Q1 "java/util/NoSuchElementException") (HQ1 (by decide +kernel)) (K28 (x5 + 5)) (PK28 (x5 + 5)) hK hJ (fL := f_L_writePolicy (xs (x5 + (1 : Int32)).toNatClampNeg)) (pL := p_L_writePolicy (xs (x5 + (1 : Int32)).toNatClampNeg)) rfl rfl
  rw [p_L_law_2942, f_L_law_2942, p_L_law_2953, f_L_law_2953]
  exact ⟨⟨v1, h.1, v1, h.2.1, h.2.2.1⟩, h.2.2.2⟩
theorem op_53 {N : Nat} {xs : Nat → Int32} {K28 : Int32 → gV → Int32 × gV} {PK28 : Int32 → gV → Prop} {x5 : Int32} {B : Nat} (hB : B < 33000) (v1 : vp_in (x5 + (1 : Int32)) N) (v2 : vp_in (x5 + (2 : Int32)) N) (v3 : vp_in (x5 + (3 : Int32)) N) (v4 : vp_in (x5 + (4 : Int32)) N) (hK : ∀ u, J (B + 64) u → PK28 (x5 + 5) u ∧ (K28 (x5 + 5) u).1 = 1) {v : gV} (hJ : J B v) : p_L_law_2998 N xs K28 PK28 x5 v ∧ (f_L_law_2998 N xs K28 x5 v).1 = 1 := by
  have h := op_int (A_writeClaim (xs (x5 + (1 : Int32)).toNatClampNeg) (B := B) (by omega)) (H1 "java/util/NoSuchElementException") (Q1 "java/util/NoSuchElementException") (HQ1 (by decide +kernel)) (K28 (x5 + 5)) (PK28 (x5 + 5)) hK hJ (fL := f_L_writeClaim (xs (x5 + (1 : Int32)).toNatClampNeg)) (pL := p_L_writeClaim (xs (x5 + (1 : Int32)).toNatClampNeg)) rfl rfl
  rw [p_L_law_2998, f_L_law_2998, p_L_law_3009, f_L_law_3009]
  exact ⟨⟨v1, h.1, v1, h.2.1, h.2.2.1⟩, h.2.2.2⟩
theorem op_54 {N : Nat} {xs : Nat → Int32} {K28 : Int32 → gV → Int32 × gV} {PK28 : Int32 → gV → Prop} {x5 : Int32} {B : Nat} (hB : B < 33000) (v1 : vp_in (x5 + (1 : Int32)) N) (v2 : vp_in (x5 + (2 : Int32)) N) (v3 : vp_in (x5 + (3 : Int32)) N) (v4 : vp_in (x5 + (4 : Int32)) N) (hK : ∀ u, J (B + 64) u → PK28 (x5 + 5) u ∧ (K28 (x5 + 5) u).1 = 1) {v : gV} (hJ : J B v) : p_L_law_3054 N xs K28 PK28 x5 v ∧ (f_L_law_3054 N xs K28 x5 v).1 = 1 := by
  have h := op_int (A_outputAt (xs (x5 + (1 : Int32)).toNatClampNeg) (B := B)) (H1 "java/lang/IndexOutOfBoundsException") (Q1 "java/lang/IndexOutOfBoundsException") (HQ1 (by decide +kernel)) (K28 (x5 + 5)) (PK28 (x5 + 5)) hK hJ (fL := f_L_outputAt (xs (x5 + (1 : Int32)).toNatClampNeg)) (pL := p_L_outputAt (xs (x5 + (1 : Int32)).toNatClampNeg)) rfl rfl
  rw [p_L_law_3054, f_L_law_3054, p_L_law_3065, f_L_law_3065]
  exact ⟨⟨v1, h.1, v1, h.2.1, h.2.2.1⟩, h.2.2.2⟩
theorem op_55 {N : Nat} {xs : Nat → Int32} {K28 : Int32 → gV → Int32 × gV} {PK28 : Int32 → gV → Prop} {x5 : Int32} {B : Nat} (hB : B < 33000) (v1 : vp_in (x5 + (1 : Int32)) N) (v2 : vp_in (x5 + (2 : Int32)) N) (v3 : vp_in (x5 + (3 : Int32)) N) (v4 : vp_in (x5 + (4 : Int32)) N) (hK : ∀ u, J (B + 64) u → PK28 (x5 + 5) u ∧ (K28 (x5 + 5) u).1 = 1) {v : gV} (hJ : J B v) : p_L_law_3110 N xs K28 PK28 x5 v ∧ (f_L_law_3110 N xs K28 x5 v).1 = 1 := by
  have h := op_int (A_type (((xs (x5 + (1 : Int32)).toNatClampNeg).toUInt32 % 65536).toInt32) (B := B)) (H2 "java/lang/IllegalArgumentException" "java/lang/IllegalStateException") (Q2 "java/lang/IllegalArgumentException" "java/lang/IllegalStateException") (HQ2 (by decide +kernel) (by decide +kernel) (by decide +kernel)) (K28 (x5 + 5)) (PK28 (x5 + 5)) hK hJ (fL := f_L_type (((xs (x5 + (1 : Int32)).toNatClampNeg).toUInt32 % 65536).toInt32)) (pL := p_L_type (((xs (x5 + (1 : Int32)).toNatClampNeg).toUInt32 % 65536).toInt32)) rfl rfl
  rw [p_L_law_3110, f_L_law_3110, p_L_law_3122, f_L_law_3122]
  exact ⟨⟨v1, h.1, v1, h.2.1, h.2.2.1⟩, h.2.2.2⟩
theorem op_56 {N : Nat} {xs : Nat → Int32} {K28 : Int32 → gV → Int32 × gV} {PK28 : Int32 → gV → Prop} {x5 : Int32} {B : Nat} (hB : B < 33000) (v1 : vp_in (x5 + (1 : Int32)) N) (v2 : vp_in (x5 + (2 : Int32)) N) (v3 : vp_in (x5 + (3 : Int32)) N) (v4 : vp_in (x5 + (4 : Int32)) N) (hK : ∀ u, J (B + 64) u → PK28 (x5 + 5) u ∧ (K28 (x5 + 5) u).1 = 1) {v : gV} (hJ : J B v) : p_L_law_3168 N xs K28 PK28 x5 v ∧ (f_L_law_3168 N xs K28 x5 v).1 = 1 := by
  have h := op_int (A_runScript (B := B) (by omega)) (H2 "java/lang/IllegalArgumentException" "java/lang/IllegalStateException") (Q2 "java/lang/IllegalArgumentException" "java/lang/IllegalStateException") (HQ2 (by decide +kernel) (by decide +kernel) (by decide +kernel)) (K28 (x5 + 5)) (PK28 (x5 + 5)) hK hJ (fL := f_L_runScript) (pL := p_L_runScript) rfl rfl
  rw [p_L_law_3168, f_L_law_3168, p_L_law_3173, f_L_law_3173]
  exact ⟨⟨h.1, h.2.1, h.2.2.1⟩, h.2.2.2⟩
theorem op_57 {N : Nat} {xs : Nat → Int32} {K28 : Int32 → gV → Int32 × gV} {PK28 : Int32 → gV → Prop} {x5 : Int32} {B : Nat} (hB : B < 33000) (v1 : vp_in (x5 + (1 : Int32)) N) (v2 : vp_in (x5 + (2 : Int32)) N) (v3 : vp_in (x5 + (3 : Int32)) N) (v4 : vp_in (x5 + (4 : Int32)) N) (hK : ∀ u, J (B + 64) u → PK28 (x5 + 5) u ∧ (K28 (x5 + 5) u).1 = 1) {v : gV} (hJ : J B v) : p_L_law_3212 N xs K28 PK28 x5 v ∧ (f_L_law_3212 N xs K28 x5 v).1 = 1 := by
  have h := op_int (A_errorPosition (B := B)) (H1 "java/util/NoSuchElementException") (Q1 "java/util/NoSuchElementException") (HQ1 (by decide +kernel)) (K28 (x5 + 5)) (PK28 (x5 + 5)) hK hJ (fL := f_L_errorPosition) (pL := p_L_errorPosition) rfl rfl
  rw [p_L_law_3212, f_L_law_3212, p_L_law_3217, f_L_law_3217]
  exact ⟨⟨h.1, h.2.1, h.2.2.1⟩, h.2.2.2⟩
theorem op_58 {N : Nat} {xs : Nat → Int32} {K28 : Int32 → gV → Int32 × gV} {PK28 : Int32 → gV → Prop} {x5 : Int32} {B : Nat} (hB : B < 33000) (v1 : vp_in (x5 + (1 : Int32)) N) (v2 : vp_in (x5 + (2 : Int32)) N) (v3 : vp_in (x5 + (3 : Int32)) N) (v4 : vp_in (x5 + (4 : Int32)) N) (hK : ∀ u, J (B + 64) u → PK28 (x5 + 5) u ∧ (K28 (x5 + 5) u).1 = 1) {v : gV} (hJ : J B v) : p_L_law_3256 N xs K28 PK28 x5 v ∧ (f_L_law_3256 N xs K28 x5 v).1 = 1 := by
  have h := op_int (A_failedCommand (B := B)) (H1 "java/util/NoSuchElementException") (Q1 "java/util/NoSuchElementException") (HQ1 (by decide +kernel)) (K28 (x5 + 5)) (PK28 (x5 + 5)) hK hJ (fL := f_L_failedCommand) (pL := p_L_failedCommand) rfl rfl
  rw [p_L_law_3256, f_L_law_3256, p_L_law_3261, f_L_law_3261]
  exact ⟨⟨h.1, h.2.1, h.2.2.1⟩, h.2.2.2⟩
theorem op_59 {N : Nat} {xs : Nat → Int32} {K28 : Int32 → gV → Int32 × gV} {PK28 : Int32 → gV → Prop} {x5 : Int32} {B : Nat} (hB : B < 33000) (v1 : vp_in (x5 + (1 : Int32)) N) (v2 : vp_in (x5 + (2 : Int32)) N) (v3 : vp_in (x5 + (3 : Int32)) N) (v4 : vp_in (x5 + (4 : Int32)) N) (hK : ∀ u, J (B + 64) u → PK28 (x5 + 5) u ∧ (K28 (x5 + 5) u).1 = 1) {v : gV} (hJ : J B v) : p_L_law_3300 N xs K28 PK28 x5 v ∧ (f_L_law_3300 N xs K28 x5 v).1 = 1 := by
  have h := op_int (A_undo (B := B)) (H1 "java/lang/IllegalStateException") (Q1 "java/lang/IllegalStateException") (HQ1 (by decide +kernel)) (K28 (x5 + 5)) (PK28 (x5 + 5)) hK hJ (fL := f_L_undo) (pL := p_L_undo) rfl rfl
  rw [p_L_law_3300, f_L_law_3300, p_L_law_3305, f_L_law_3305]
  exact ⟨⟨h.1, h.2.1, h.2.2.1⟩, h.2.2.2⟩
theorem op_60 {N : Nat} {xs : Nat → Int32} {K28 : Int32 → gV → Int32 × gV} {PK28 : Int32 → gV → Prop} {x5 : Int32} {B : Nat} (hB : B < 33000) (v1 : vp_in (x5 + (1 : Int32)) N) (v2 : vp_in (x5 + (2 : Int32)) N) (v3 : vp_in (x5 + (3 : Int32)) N) (v4 : vp_in (x5 + (4 : Int32)) N) (hK : ∀ u, J (B + 64) u → PK28 (x5 + 5) u ∧ (K28 (x5 + 5) u).1 = 1) {v : gV} (hJ : J B v) : p_L_law_3344 N xs K28 PK28 x5 v ∧ (f_L_law_3344 N xs K28 x5 v).1 = 1 := by
  obtain ⟨k1, k2⟩ := A_save v hJ
  obtain ⟨k3, k4, k5⟩ := k2 (f_X11_save v).2 rfl
  have h := hK _ k5
  rw [p_L_law_3344, f_L_law_3344, p_L_law_3348, f_L_law_3348, p_L_law_3352, f_L_law_3352, k4, if_pos rfl]
  exact ⟨⟨k1, k3, fun _ => h.1, fun g => absurd rfl g⟩, h.2⟩
theorem op_61 {N : Nat} {xs : Nat → Int32} {K28 : Int32 → gV → Int32 × gV} {PK28 : Int32 → gV → Prop} {x5 : Int32} {B : Nat} (hB : B < 33000) (v1 : vp_in (x5 + (1 : Int32)) N) (v2 : vp_in (x5 + (2 : Int32)) N) (v3 : vp_in (x5 + (3 : Int32)) N) (v4 : vp_in (x5 + (4 : Int32)) N) (hK : ∀ u, J (B + 64) u → PK28 (x5 + 5) u ∧ (K28 (x5 + 5) u).1 = 1) {v : gV} (hJ : J B v) : p_L_law_3357 N xs K28 PK28 x5 v ∧ (f_L_law_3357 N xs K28 x5 v).1 = 1 := by
  have h := op_int (A_restore (B := B)) (H1 "java/lang/IllegalStateException") (Q1 "java/lang/IllegalStateException") (HQ1 (by decide +kernel)) (K28 (x5 + 5)) (PK28 (x5 + 5)) hK hJ (fL := f_L_restore) (pL := p_L_restore) rfl rfl
  rw [p_L_law_3357, f_L_law_3357, p_L_law_3362, f_L_law_3362]
  exact ⟨⟨h.1, h.2.1, h.2.2.1⟩, h.2.2.2⟩
