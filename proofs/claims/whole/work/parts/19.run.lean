/-! the flat machine while it runs: all cells made, all references set; a state is v = (ints, longs, doubles) -/
abbrev gV : Type := (Nat → Nat → Int32) × (Nat → Nat → Int64) × (Nat → UInt64)
def gRt : Nat → Nat → Bool := fun _ _ => true
abbrev rS (v : gV) : gS := (572, gRt, v)
def vM (v : gV) (j k : Nat) (x : Int32) : gV := (upr v.1 j (upd (v.1 j) k x), v.2)
def vRow (v : gV) (j : Nat) (f : Nat → Int32) : gV := (upr v.1 j f, v.2)
def vL (v : gV) (j k : Nat) (x : Int64) : gV := (v.1, uprL v.2.1 j (vp_updL (v.2.1 j) k x), v.2.2)
def vF (v : gV) (k : Nat) (x : UInt64) : gV := (v.1, v.2.1, vf_upd v.2.2 k x)
section GRUN
variable {E : gE} {μ : gMd} {d : Nat} {Q : gO → gS → Prop} {k n : Nat} {v : gV} {pc : Nat} {lv : List (Nat × Value)} {st : List Value}
theorem r_iast {i x : Int32} {j N : Nat} (hkd : kd j = (1, N)) (hj : j < 572) (hi : vp_in i N) (hdg : decode (md_c μ) pc = .ok (.iastore, 1)) (kk : gG E μ d Q k n (rS (vM v j i.toNatClampNeg x)) (pc + 1) lv st) : gG E μ d Q k n (rS v) pc lv (.int x :: .int i :: .ref (gX E + j) :: st) := g_iast hkd rfl hj hi hdg kk
theorem r_cast {i x : Int32} {j N : Nat} (hkd : kd j = (2, N)) (hj : j < 572) (hi : vp_in i N) (hx0 : vp_nar .char x = x) (hdg : decode (md_c μ) pc = .ok (.castore, 1)) (kk : gG E μ d Q k n (rS (vM v j i.toNatClampNeg x)) (pc + 1) lv st) : gG E μ d Q k n (rS v) pc lv (.int x :: .int i :: .ref (gX E + j) :: st) := g_cast hkd rfl hj hi hx0 hdg kk
theorem r_last {i : Int32} {x : Int64} {j N : Nat} (hkd : kd j = (3, N)) (hj : j < 572) (hi : vp_in i N) (hdg : decode (md_c μ) pc = .ok (.lastore, 1)) (kk : gG E μ d Q k n (rS (vL v j i.toNatClampNeg x)) (pc + 1) lv st) : gG E μ d Q k n (rS v) pc lv (.long x :: .int i :: .ref (gX E + j) :: st) := g_last hkd rfl hj hi hdg kk
theorem r_dast {i : Int32} {x : UInt64} {N : Nat} (hkd : kd 571 = (6, N)) (hi : vp_in i N) (hdg : decode (md_c μ) pc = .ok (.dastore, 1)) (kk : gG E μ d Q k n (rS (vF v i.toNatClampNeg x)) (pc + 1) lv st) : gG E μ d Q k n (rS v) pc lv (.double x :: .int i :: .ref (gX E + 571) :: st) := g_dast hkd rfl hi hdg kk
theorem r_put {own : String} {idx ci kf j : Nat} {ty : FieldType} {x : Int32} (hf : gFq own idx ci kf ty false) (ho : md_o μ = own) (hkd : kd j = (0, ci)) (h10 : ci ≠ 10) (h5 : ci ≠ 5) (h0 : fcode ci kf = 0) (hj : j < 572) (hn : narrow ty (.int x) = .int x) (hfit : fits ty (.int x) = true) (hdg : decode (md_c μ) pc = .ok (.putfield idx, 3)) (kk : gG E μ d Q k n (rS (vM v j kf x)) (pc + 3) lv st) : gG E μ d Q k n (rS v) pc lv (.int x :: .ref (gX E + j) :: st) := g_put hf ho hkd h10 h0 (fun kq hq => by
  by_cases h : ci < 11
  · have h9 : ∀ c, c < 11 → c ≠ 5 → c ≠ 10 → ∀ q, fcode c q ≠ 1000 := by
      intro c hc h5 h10 q
      by_cases hq : q < 21
      · exact (by decide : ∀ c, c < 11 → c ≠ 5 → c ≠ 10 → ∀ q, q < 21 → fcode c q ≠ 1000) c hc h5 h10 q hq
      · have e : fcode c q = 0 := by
          unfold fcode
          rw [List.getD_eq_getElem?_getD, List.getElem?_eq_none]
          · rfl
          · have := (by decide : ∀ c, c < 11 → (fqL.getD c []).length ≤ 21) c hc
            omega
        rw [e]
        decide
    exact h9 ci h h5 h10 kq hq
  · have e : fcode ci kq = 0 := by
      unfold fcode
      rw [List.getD_eq_getElem?_getD (l := fqL), List.getElem?_eq_none (by show 11 ≤ ci; omega)]
      rfl
    rw [e] at hq
    cases hq) hj hn hfit hdg kk
theorem r_get {own : String} {idx ci kf j : Nat} (x : Value) (hf : gFl own idx ci kf) (ho : md_o μ = own) (hkd : kd j = (0, ci)) (hj : j < 572) (hdg : decode (md_c μ) pc = .ok (.getfield idx, 3)) (hv : ∀ τ, fv E τ (rS v) ci j kf = x) (kk : gG E μ d Q k n (rS v) (pc + 3) lv (x :: st)) : gG E μ d Q k n (rS v) pc lv (.ref (gX E + j) :: st) := g_get x hf ho hkd hj hdg hv kk
theorem vp_in_nat {i : Int32} {N : Nat} (h : vp_in i N) : i = nI i.toNatClampNeg ∧ i.toNatClampNeg < N := by
  have h1 : ¬ i < 0 := fun q => h (Or.inl q)
  obtain ⟨j, hj, rfl⟩ := nI_of h1
  rw [nI_clamp hj]
  refine ⟨rfl, Nat.lt_of_not_le fun q => h (Or.inr (by rw [nI_clamp hj]; exact q))⟩
theorem r_aald {i : Int32} {j N : Nat} (hkd : kd j = (4, N)) (hj : j < 572) (hi : vp_in i N) (hN : N < 2 ^ 31) (hdg : decode (md_c μ) pc = .ok (.aaload, 1)) (kk : gG E μ d Q k n (rS v) (pc + 1) lv (.ref (gX E + (j + 1 + i.toNatClampNeg)) :: st)) : gG E μ d Q k n (rS v) pc lv (.int i :: .ref (gX E + j) :: st) := g_aald hkd hj (vp_in_nat hi).1 (vp_in_nat hi).2 hN hdg kk
theorem r_aaldB {i : Int32} (hi : vp_in i 9) (hdg : decode (md_c μ) pc = .ok (.aaload, 1)) (kk : gG E μ d Q k n (rS v) (pc + 1) lv (.ref (gX E + (103 + 50 * i.toNatClampNeg)) :: st)) : gG E μ d Q k n (rS v) pc lv (.int i :: .ref (gX E + 102) :: st) := g_aaldB (show 102 < 572 by decide) (vp_in_nat hi).1 (vp_in_nat hi).2 rfl hdg kk
/-- the words of a static method of Math that the library serves -/
def gMw (own : String) (idx : Nat) (nm : MethodName) (cc : ByteArray) : Prop := Cond.methodLink own idx nm ∈ wA ∧ Cond.static nm ∈ wA ∧ Cond.initialized "java/lang/Math" ∈ wA ∧ Cond.code nm cc 2 (some .int) ∈ wA
theorem r_mmin {own : String} {idx : Nat} {x y : Int32} (hs : gMw own idx Lib.Math.min.name Lib.Math.min.code) (ho : md_o μ = own) (hcat : (st.map fun v => v.category).sum ≤ 8) (hd : 1 ≤ d) (hdg : decode (md_c μ) pc = .ok (.invokestatic idx, 3)) (kk : gG E μ d Q k n (rS v) (pc + 3) lv (.int (if y < x then y else x) :: st)) : gG E μ d Q k n (rS v) pc lv (.int y :: .int x :: st) := by
  intro _ _ _ _ _ _ _ _ _ _ _ _ _ cx H locs cells slots ls hH hS hc hss hl
  have cx0 := cx
  obtain ⟨hx, hb, hml, hown, hts, hKK, hR, -⟩ := cx0
  exact va_mmin hx hb (by rw [hml, hl.1]) (by rw [← ho]; exact hown) (hts _ hs.1) (hts _ hs.2.1) (hts _ hs.2.2.1) (hts _ hs.2.2.2) (by omega) (by omega) (by rw [hR.2.2.1]; omega) (by rw [hR.2.2.2]; omega) hdg (kk _ _ _ _ _ _ _ _ _ _ _ _ _ cx H locs cells slots ls hH hS hc hss hl)
theorem r_mmax {own : String} {idx : Nat} {x y : Int32} (hs : gMw own idx Lib.Math.max.name Lib.Math.max.code) (ho : md_o μ = own) (hcat : (st.map fun v => v.category).sum ≤ 8) (hd : 1 ≤ d) (hdg : decode (md_c μ) pc = .ok (.invokestatic idx, 3)) (kk : gG E μ d Q k n (rS v) (pc + 3) lv (.int (if x < y then y else x) :: st)) : gG E μ d Q k n (rS v) pc lv (.int y :: .int x :: st) := by
  intro _ _ _ _ _ _ _ _ _ _ _ _ _ cx H locs cells slots ls hH hS hc hss hl
  have cx0 := cx
  obtain ⟨hx, hb, hml, hown, hts, hKK, hR, -⟩ := cx0
  exact va_mmax hx hb (by rw [hml, hl.1]) (by rw [← ho]; exact hown) (hts _ hs.1) (hts _ hs.2.1) (hts _ hs.2.2.1) (hts _ hs.2.2.2) (by omega) (by omega) (by rw [hR.2.2.1]; omega) (by rw [hR.2.2.2]; omega) hdg (kk _ _ _ _ _ _ _ _ _ _ _ _ _ cx H locs cells slots ls hH hS hc hss hl)
/-- System.arraycopy of two rows of ints, from 0 to 0 -/
theorem r_copy {own : String} {idx j0 j1 N0 N1 : Nat} {c : Int32} (hs : Cond.methodLink own idx arraycopyName ∈ wA ∧ Cond.native arraycopyName ∈ wA ∧ Cond.static arraycopyName ∈ wA ∧ Cond.initialized "java/lang/System" ∈ wA) (ho : md_o μ = own) (h0 : kd j0 = (1, N0)) (h1 : kd j1 = (1, N1)) (hj0 : j0 < 572) (hj1 : j1 < 572) (hc0 : ¬ c < 0) (hn0 : c.toNatClampNeg ≤ N0) (hn1 : c.toNatClampNeg ≤ N1) (hcat : (st.map fun v => v.category).sum ≤ 8) (hd : 2 ≤ d) (hdg : decode (md_c μ) pc = .ok (.invokestatic idx, 3))
    (kk : gG E μ d Q k n (rS (vRow v j1 (va_cpy (v.1 j0) (v.1 j1) 0 0 c.toNatClampNeg))) (pc + 3) lv st) : gG E μ d Q k n (rS v) pc lv (.int c :: .int 0 :: .ref (gX E + j1) :: .int 0 :: .ref (gX E + j0) :: st) := by
  intro _ _ _ _ _ _ _ _ _ _ _ _ _ cx H locs cells slots ls hH hS hc hss hl
  have cx0 := cx
  obtain ⟨hx, hb, hml, hown, hts, hKK, hR, hB, -⟩ := cx0
  obtain ⟨hBB, h572, hsz, τ, ht1, ht2, hP, hD⟩ := id hH
  have e0 : (gws E τ (rS v))[j0]? = some (gX E + j0, .inl (gar E 0, N0, .inl (v.1 j0))) := by rw [gws_at (show j0 < 572 from hj0), cellE_1 h0, adr_of (by rw [h0]; show (1 : Nat) ≠ 7; decide)]
  have e1 : (gws E τ (rS v))[j1]? = some (gX E + j1, .inl (gar E 0, N1, .inl (v.1 j1))) := by rw [gws_at (show j1 < 572 from hj1), cellE_1 h1, adr_of (by rw [h1]; show (1 : Nat) ≠ 7; decide)]
  have hw : nativeFrameWords "java/lang/System" "arraycopy" 5 ≤ 60 := by decide +kernel
  refine va_copyi (D := E.1) (ty := .int) hx hb (by rw [hml, hl.1]) (by rw [← ho]; exact hown) (hts _ hs.1) (hts _ hs.2.1) (hts _ hs.2.2.1) (hts _ hs.2.2.2) hKK.1 hP hD hS j0 j1 0 0 e0 e1 rfl rfl rfl (by decide) (by decide) hc0 (by rw [sb_cl0]; omega) (by rw [sb_cl0]; omega) (fun _ _ => rfl) (by omega) (by omega) hdg (fun H1 locs1 hP1 hD1 hS1 => ?_)
  rw [sb_cl0, show gX E + j1 = adr E τ j1 from (adr_of (by rw [h1]; show (1 : Nat) ≠ 7; decide)).symm] at hP1 hD1
  exact kk _ _ _ _ _ _ _ _ _ _ _ _ _ cx H1 locs1 cells slots ls (gHH_set (σ := rS v) (σ' := rS (vRow v j1 (va_cpy (v.1 j0) (v.1 j1) 0 0 c.toNatClampNeg))) ⟨hBB, h572, hsz⟩ ht1 ht2 hB hS1 (fun h => absurd h (by show ¬ (572 < 572); decide)) rfl hj1 (by rw [cellE_1 h1]; show _ = _; rw [show gM (rS (vRow v j1 (va_cpy (v.1 j0) (v.1 j1) 0 0 c.toNatClampNeg))) j1 = va_cpy (v.1 j0) (v.1 j1) 0 0 c.toNatClampNeg from upr_s]) (fun a ha => cellE_upr (σ := rS v) ha) (fun a ha => upr_n (ntx h1 (by decide) (by intro h; cases h) ha)) hP1 hD1) hS1 hc hss hl
theorem r_ldc {own : String} {idx : Nat} (x : Int32) (hs : Cond.constant own idx x ∈ wA) (ho : md_o μ = own) (hdg : decode (md_c μ) pc = .ok (.ldc idx, 2)) (kk : gG E μ d Q k n (rS v) (pc + 2) lv (.int x :: st)) : gG E μ d Q k n (rS v) pc lv st := by
  intro _ _ _ _ _ _ _ _ _ _ _ _ _ cx H locs cells slots ls hH hS hc hss hl
  have cx0 := cx
  obtain ⟨hx, hb, hml, hown, hts, -⟩ := cx0
  exact lv_ldc hx hb (by rw [← ho]; exact hown) (hts _ hs) hdg (kk _ _ _ _ _ _ _ _ _ _ _ _ _ cx H locs cells slots ls hH hS hc hss hl)
theorem r_ldc2 {own : String} {idx : Nat} (x : Int64) (hs : Cond.constantLong own idx x ∈ wA) (ho : md_o μ = own) (hdg : decode (md_c μ) pc = .ok (.ldc2_w idx, 3)) (kk : gG E μ d Q k n (rS v) (pc + 3) lv (.long x :: st)) : gG E μ d Q k n (rS v) pc lv st := by
  intro _ _ _ _ _ _ _ _ _ _ _ _ _ cx H locs cells slots ls hH hS hc hss hl
  have cx0 := cx
  obtain ⟨hx, hb, hml, hown, hts, -⟩ := cx0
  exact lv_ldc2 hx hb (by rw [← ho]; exact hown) (hts _ hs) hdg (kk _ _ _ _ _ _ _ _ _ _ _ _ _ cx H locs cells slots ls hH hS hc hss hl)
end GRUN
