/-! a claim written -/
def tClm (n : Nat) (c : Int32) (a p q : Nat) (t : tSt) : tSt := tN q (tC (nI 61) (tN p (tC (nI 47) (tN a (tC c (tN n t))))))
theorem isC_b {c : Int32} (h : isC c = true) : 32 ≤ c.toInt ∧ c.toInt ≤ 126 := by
  unfold isC at h
  simp only [Bool.or_eq_true, decide_eq_true_iff] at h
  rcases h with ((h | h) | h) | h <;> subst h <;> exact ⟨by decide +kernel, by decide +kernel⟩
theorem tE_clm (n : Nat) {c : Int32} (a p q : Nat) (hc : isC c = true) {t t' : tSt} (h : tE t t') : tE (tClm n c a p q t) (tClm n c a p q t') := by
  have ch : ∀ (k : Nat) {x y : tSt}, 32 ≤ k → k ≤ 126 → tE x y → tE (tC (nI k) x) (tC (nI k) y) := fun k x y h1 h2 h => tE_C h (by rw [tI (by omega)]; omega) (by rw [tI (by omega)]; omega)
  exact tE_N (ch 61 (by omega) (by omega) (tE_N (ch 47 (by omega) (by omega) (tE_N (tE_C (tE_N h) (isC_b hc).1 (isC_b hc).2)))))
theorem tClm_b (n : Nat) (c : Int32) (a p q : Nat) {t : tSt} (ht : t.1 = 0) (hn : n < 100000000) (ha : a < 100000000) (hp : p < 100000000) (hq : q < 100000000) : (tClm n c a p q t).1 ≤ 80 := by
  have dn := dg_8 hn
  have da := dg_8 ha
  have dp := dg_8 hp
  have dq := dg_8 hq
  show t.1 + sb_dg n + 1 + sb_dg a + 1 + sb_dg p + 1 + sb_dg q ≤ 80
  omega
theorem K_wclm {B np nc nt no k n a p q : Nat} {v : gV} {w : Nat → Int32} {c : Int32} (h : BR B v 1 w np nc nt no) (hk : k < nc) (hn : n < 100000000) (ha : a < 100000000) (hp : p < 100000000) (hq : q < 100000000) (ec : w (72 + 12 * k + 2) = c) (hc : isC c = true) (ea : w (72 + 12 * k + 3) = nI a) (ep : w (72 + 12 * k + 4) = nI p) (eq : w (72 + 12 * k + 3) - bor w k = nI q) (t : tSt) (ht : t.1 = 0) : p_X11_writeClaim_20 (nI n) (nI k) (cT v t) ∧ f_X11_writeClaim_20 (nI n) (nI k) (cT v t) = (Sum.inl (nI (tClm n c a p q t).1), cT v (tClm n c a p q t)) := by
  have n6 := h.1.2.2.2.2.2.1
  have bc := h.2.2.2.2.2.2.2.2.2.1
  have hcl : (nI k).toNatClampNeg = k := cl_n (by omega)
  have hv : vp_in (nI k) 12 := vi_n (by omega) (by omega)
  have r14 : ∀ t, (cT v t).1 (1 + 13) k = c := fun t => by rw [cT_ne _ _ (by omega) (by omega), ← ec]; exact (bc k hk).2.2.1
  have r15 : ∀ t, (cT v t).1 (1 + 14) k = nI a := fun t => by rw [cT_ne _ _ (by omega) (by omega), ← ea]; exact (bc k hk).2.2.2.1
  have r16 : ∀ t, (cT v t).1 (1 + 15) k = nI p := fun t => by rw [cT_ne _ _ (by omega) (by omega), ← ep]; exact (bc k hk).2.2.2.2.1
  have bc' : ∀ t, BRc (cT v t) 1 w nc := fun t => BRc_congr n6 (fun o h1 h2 => cT_ne _ _ (by omega) (by omega)) (fun _ _ _ => rfl) bc
  have fo : ∀ t, f_X2_ownPartAt 1 (nI k) (cT v t) = nI q := fun t => by
    show (cT v t).1 (1 + 14) (nI k).toNatClampNeg - f_X11_sumOfRow (1 + 17 + 1 + (nI k).toNatClampNeg) 4 (nI 4) (cT v t) = _
    rw [hcl, (F_sumRow (bc' t) hk).2, r15, ← ea]
    exact eq
  have po : ∀ t, p_X2_ownPartAt 1 (nI k) (cT v t) := fun t => by
    show vp_in (nI k) 12 ∧ (vp_in (nI k) 12 ∧ (p_X11_sumOfRow (1 + 17 + 1 + (nI k).toNatClampNeg) 4 (nI 4) (cT v t) ∧ True))
    rw [hcl]
    exact ⟨hv, hv, (F_sumRow (bc' t) hk).1, trivial⟩
  have dn := dg_8 hn
  have da := dg_8 ha
  have dp := dg_8 hp
  have dq := dg_8 hq
  have len : ∀ t, (cT v t).1 557 3 = nI t.1 := cT_len v
  have FC : ∀ (q : Int32) (t : tSt), t.1 < 100 → f_J4_append_cf468 557 q (cT v t) = cT v (tC q t) := fun q t h => cT_C v t q (by omega)
  have PC : ∀ (q : Nat) (t : tSt), t.1 < 100 → q < 256 → p_J4_append_cf468 557 (nI q) (cT v t) := fun q t h hq => pT_C v t (by omega) (by rw [tI (by omega)]; omega) (by rw [tI (by omega)]; omega)
  have hcb := isC_b hc
  have PCc : ∀ (t : tSt), t.1 < 100 → p_J4_append_cf468 557 c (cT v t) := fun t h => pT_C v t (by omega) (by omega) (by omega)
  have FN : ∀ (q : Nat) (t : tSt), t.1 < 100 → q < 100000000 → f_J4_append_bf812 557 (nI q) (cT v t) = cT v (tN q t) := fun q t h hq => cT_N v t q (by omega) (by omega)
  have PN : ∀ (q : Nat) (t : tSt), t.1 < 100 → q < 100000000 → p_J4_append_bf812 557 (nI q) (cT v t) := fun q t h hq => pT_N v t (by omega) (by omega)
  have f112 : ∀ t, f_X11_writeClaim_112 (cT v t) = (Sum.inl (nI t.1), cT v t) := fun t => by
    show (Sum.inl ((cT v t).1 557 3), cT v t) = _
    rw [len]
  have p112 : ∀ t, p_X11_writeClaim_112 (cT v t) := fun t => And.intro trivial trivial
  have l1 : (tN n t).1 ≤ 8 := by rw [tN_1, ht]; omega
  have l2 : (tC c (tN n t)).1 ≤ 9 := by rw [tC_1]; omega
  have l3 : (tN a (tC c (tN n t))).1 ≤ 17 := by rw [tN_1]; omega
  have l4 : (tC (nI 47) (tN a (tC c (tN n t)))).1 ≤ 18 := by rw [tC_1]; omega
  have l5 : (tN p (tC (nI 47) (tN a (tC c (tN n t))))).1 ≤ 26 := by rw [tN_1]; omega
  have l6 : (tC (nI 61) (tN p (tC (nI 47) (tN a (tC c (tN n t)))))).1 ≤ 27 := by rw [tC_1]; omega
  constructor
  · rw [p_X11_writeClaim_20]
    refine ⟨PN n t (by omega) hn, ?_⟩
    rw [FN n t (by omega) hn, p_X11_writeClaim_28, hcl, r14]
    refine ⟨hv, PCc _ (by omega), ?_⟩
    rw [FC c _ (by omega), p_X11_writeClaim_43, hcl, r15]
    refine ⟨hv, PN a _ (by omega) ha, ?_⟩
    rw [FN a _ (by omega) ha, p_X11_writeClaim_63]
    refine ⟨PC 47 _ (by omega) (by omega), ?_⟩
    rw [show (47 : Int32) = nI 47 from rfl, FC _ _ (by omega), p_X11_writeClaim_73, hcl, r16]
    refine ⟨hv, PN p _ (by omega) hp, ?_⟩
    rw [FN p _ (by omega) hp, p_X11_writeClaim_88]
    refine ⟨PC 61 _ (by omega) (by omega), ?_⟩
    rw [show (61 : Int32) = nI 61 from rfl, FC _ _ (by omega), p_X11_writeClaim_98, fo]
    refine ⟨po _, PN q _ (by omega) hq, ?_⟩
    rw [FN q _ (by omega) hq]
    exact p112 _
  · rw [f_X11_writeClaim_20, FN n t (by omega) hn, f_X11_writeClaim_28, hcl, r14, FC c _ (by omega), f_X11_writeClaim_43, hcl, r15, FN a _ (by omega) ha, f_X11_writeClaim_63, show (47 : Int32) = nI 47 from rfl, FC _ _ (by omega), f_X11_writeClaim_73, hcl, r16, FN p _ (by omega) hp, f_X11_writeClaim_88, show (61 : Int32) = nI 61 from rfl, FC _ _ (by omega), f_X11_writeClaim_98, fo, FN q _ (by omega) hq]
    exact f112 _
theorem K_wclm12 {k n a p q : Nat} {u : gV} {w : Nat → Int32} {c : Int32} (hw : u.1 560 = w) (hk : k < 12) (hn : n < 100000000) (ha : a < 100000000) (hp : p < 100000000) (hq : q < 100000000) (ec : w (72 + 12 * k + 2) = c) (ea : w (72 + 12 * k + 3) = nI a) (ep : w (72 + 12 * k + 4) = nI p) (eq : w (72 + 12 * k + 3) - bor w k = nI q) (t : tSt) (ht : t.1 = 0) : p_X12_writeClaim_33 (nI n) (nI k) (mT u t) ∧ f_X12_writeClaim_33 (nI n) (nI k) (mT u t) = (nI (tClm n c a p q t).1, mT u (tClm n c a p q t)) := by
  have m560 : ∀ t, (mT u t).1 560 = w := fun t => by rw [mT_ne _ _ (by omega) (by omega)]; exact hw
  have f2 : ∀ t, f_X12_c (nI k) (2 : Int32) (mT u t) = c := fun t => (F_X12_c (mT u t) (k := k) (o := 2) (by omega)).trans (by rw [m560]; exact ec)
  have f3 : ∀ t, f_X12_c (nI k) (3 : Int32) (mT u t) = nI a := fun t => (F_X12_c (mT u t) (k := k) (o := 3) (by omega)).trans (by rw [m560]; exact ea)
  have f4 : ∀ t, f_X12_c (nI k) (4 : Int32) (mT u t) = nI p := fun t => (F_X12_c (mT u t) (k := k) (o := 4) (by omega)).trans (by rw [m560]; exact ep)
  have p2 : ∀ t, p_X12_c (nI k) (2 : Int32) (mT u t) := fun t => P_X12_c (mT u t) (k := k) (o := 2) (by omega)
  have p3 : ∀ t, p_X12_c (nI k) (3 : Int32) (mT u t) := fun t => P_X12_c (mT u t) (k := k) (o := 3) (by omega)
  have p4 : ∀ t, p_X12_c (nI k) (4 : Int32) (mT u t) := fun t => P_X12_c (mT u t) (k := k) (o := 4) (by omega)
  have fb : ∀ t, f_X12_borneOf (nI k) (mT u t) = bor w k := fun t => by rw [F_X12_borneOf _ (by omega), m560]
  have pb : ∀ t, p_X12_borneOf (nI k) (mT u t) := fun t => P_X12_borneOf _ (by omega)
  have eq' : nI a - bor w k = nI q := by rw [← ea]; exact eq
  have dn := dg_8 hn
  have da := dg_8 ha
  have dp := dg_8 hp
  have dq := dg_8 hq
  have FC : ∀ (q : Int32) (t : tSt), t.1 < 70 → f_X12_write q (mT u t) = mT u (tC q t) := fun q t h => (mT_C u t q (by omega)).2
  have PC : ∀ (q : Int32) (t : tSt), t.1 < 70 → p_X12_write q (mT u t) := fun q t h => (mT_C u t q (by omega)).1
  have FN : ∀ (q : Nat) (t : tSt), t.1 < 70 → q < 100000000 → f_X12_writeNumber (nI q) (mT u t) = mT u (tN q t) := fun q t h hq => (mT_N u t hq (by omega)).2
  have PN : ∀ (q : Nat) (t : tSt), t.1 < 70 → q < 100000000 → p_X12_writeNumber (nI q) (mT u t) := fun q t h hq => (mT_N u t hq (by omega)).1
  have f96 : ∀ t, f_X12_writeClaim_96 (mT u t) = (nI t.1, mT u t) := fun t => by
    show ((mT u t).1 559 12, mT u t) = _
    rw [mT_len]
  have l1 : (tN n t).1 ≤ 8 := by rw [tN_1, ht]; omega
  have l2 : (tC c (tN n t)).1 ≤ 9 := by rw [tC_1]; omega
  have l3 : (tN a (tC c (tN n t))).1 ≤ 17 := by rw [tN_1]; omega
  have l4 : (tC (nI 47) (tN a (tC c (tN n t)))).1 ≤ 18 := by rw [tC_1]; omega
  have l5 : (tN p (tC (nI 47) (tN a (tC c (tN n t))))).1 ≤ 26 := by rw [tN_1]; omega
  have l6 : (tC (nI 61) (tN p (tC (nI 47) (tN a (tC c (tN n t)))))).1 ≤ 27 := by rw [tC_1]; omega
  constructor
  · rw [p_X12_writeClaim_33]
    refine ⟨PN n t (by omega) hn, ?_⟩
    rw [FN n t (by omega) hn, p_X12_writeClaim_38, f2]
    refine ⟨p2 _, PC c _ (by omega), ?_⟩
    rw [FC c _ (by omega), p_X12_writeClaim_48, f3]
    refine ⟨p3 _, PN a _ (by omega) ha, ?_⟩
    rw [FN a _ (by omega) ha, p_X12_writeClaim_58]
    refine ⟨PC _ _ (by omega), ?_⟩
    rw [show (47 : Int32) = nI 47 from rfl, FC _ _ (by omega), p_X12_writeClaim_64, f4]
    refine ⟨p4 _, PN p _ (by omega) hp, ?_⟩
    rw [FN p _ (by omega) hp, p_X12_writeClaim_74]
    refine ⟨PC _ _ (by omega), ?_⟩
    rw [show (61 : Int32) = nI 61 from rfl, FC _ _ (by omega), p_X12_writeClaim_80, f3, fb, eq']
    exact ⟨p3 _, pb _, PN q _ (by omega) hq, trivial⟩
  · rw [f_X12_writeClaim_33, FN n t (by omega) hn, f_X12_writeClaim_38, f2, FC c _ (by omega), f_X12_writeClaim_48, f3, FN a _ (by omega) ha, f_X12_writeClaim_58, show (47 : Int32) = nI 47 from rfl, FC _ _ (by omega), f_X12_writeClaim_64, f4, FN p _ (by omega) hp, f_X12_writeClaim_74, show (61 : Int32) = nI 61 from rfl, FC _ _ (by omega), f_X12_writeClaim_80, f3, fb, eq', FN q _ (by omega) hq]
    exact f96 _
theorem A_writeClaim (x : Int32) {B : Nat} (hB : B < 40000) : Ans (f_X11_writeClaim x) (p_X11_writeClaim x) (f_X12_writeClaim x) (p_X12_writeClaim x) eN oy1 (any Int32) B := by
  intro v hJ
  obtain ⟨np, nc, nt, no, h⟩ := hJ.1
  have hw := h.1
  have n5 := hw.2.2.2.2.2.1
  have wc := h.2.2.2.1
  have hs4 := h.2.1
  obtain ⟨pp, pf⟩ := F_placeOf_C n5 h.2.2.2.2.2.2.2.1 h.2.2.2.2.2.2.2.2.2.1 x
  cases e : clm (v.1 560) nc x with
  | none =>
    rw [e] at pf
    have pf : f_X6_placeOf_C 1 x v = Sum.inr "java/util/NoSuchElementException" := pf
    have hf : f_X11_writeClaim x v = (Sum.inr "java/util/NoSuchElementException", v) := by
      show f_X11_writeClaim_0 x v = _
      rw [f_X11_writeClaim_0, pf]
      rfl
    have hp : p_X11_writeClaim x v := by
      show p_X11_writeClaim_0 x v
      rw [p_X11_writeClaim_0, pf]
      exact ⟨pp, fun r hr => by cases hr⟩
    rw [hf]
    refine ⟨hp, Or.inl ⟨nI 1, rfl, n10, rfl, fun u hu => ?_⟩⟩
    have hu0 : u.1 560 = v.1 560 := by rw [hu]
    have hP := P_X12_claim x u (n := nc) (by rw [hu0]; exact hw.2.1) n5
    have hF := F_X12_claim x u (n := nc) (by rw [hu0]; exact hw.2.1) n5
    rw [hu0, e] at hF
    have hck := F_checked (nI 0) u
    rw [if_pos rfl] at hck
    have hck' : f_X12_checked (0 : Int32) u = (nI 1, thr u (nI 1)) := hck
    have l1 : ¬ nI 1 ≤ 0 := le10
    have hlt : oN none < 0 := oN_none'
    have hm : p_X12_writeClaim x u ∧ f_X12_writeClaim x u = (0, thr u (nI 1)) := by
      constructor
      · show p_X12_writeClaim_0 x u
        rw [p_X12_writeClaim_0, hF]
        refine ⟨hP, fun _ => ?_, fun h => absurd hlt h⟩
        rw [p_X12_writeClaim_14, hck']
        refine ⟨P_checked _ _, ?_⟩
        rw [p_X12_writeClaim_17]
        exact ⟨fun h => absurd h l1, fun _ => trivial⟩
      · show f_X12_writeClaim_0 x u = _
        rw [f_X12_writeClaim_0, hF, if_pos hlt, f_X12_writeClaim_14, hck', f_X12_writeClaim_17, if_neg l1]
    rw [hm.2]
    have hth := thr_Th u (nI 1)
    exact ⟨hm.1, thr_6 u _, ((hJ.one hu).sc hth.sc).mono (by omega)⟩
  | some k =>
    rw [e] at pf
    have hk := clm_lt e
    have pf : f_X6_placeOf_C 1 x v = Sum.inl (nI k) := pf
    obtain ⟨a1, a2, a3, a4, a5, a6, a7, a8, a9, a10, a11, a12, a13⟩ := wc.1 k hk
    unfold WFs at hs4
    have hid : v.1 560 (72 + 12 * k) = x := (fid_some e).2
    have hbo := bor_b a11 (by omega)
    have hbn : 0 ≤ sI (prt (v.1 560) k) 4 := sI_nn a11
    obtain ⟨n, hn, en⟩ := nI_ofI (x := x) (m := 100000000) (by rw [← hid]; omega) (by rw [← hid]; omega)
    subst en
    obtain ⟨s, hs, es⟩ := nI_ofI (x := v.1 560 (72 + 12 * k + 3)) (m := 100000000) (by omega) (by omega)
    obtain ⟨r, hr, er⟩ := nI_ofI (x := v.1 560 (72 + 12 * k + 4)) (m := 100000000) (by omega) (by omega)
    have hsub : (v.1 560 (72 + 12 * k + 3) - bor (v.1 560) k).toInt = (v.1 560 (72 + 12 * k + 3)).toInt - sI (prt (v.1 560) k) 4 := by
      rw [ti_sub (by omega) (by omega), hbo]
    obtain ⟨q, hq, eq⟩ := nI_ofI (x := v.1 560 (72 + 12 * k + 3) - bor (v.1 560) k) (m := 100000000) (by omega) (by omega)
    obtain ⟨c1, c2⟩ := K_wclm h hk hn hs hr hq rfl a4 es er eq (0, v.1 558) rfl
    have hsl : f_J4_setLength_d00df 557 (0 : Int32) v = cT v (0, v.1 558) := cT_of v
    have hf : f_X11_writeClaim (nI n) v = (Sum.inl (nI (tClm n (v.1 560 (72 + 12 * k + 2)) s r q (0, v.1 558)).1), cT v (tClm n (v.1 560 (72 + 12 * k + 2)) s r q (0, v.1 558))) := by
      show f_X11_writeClaim_0 (nI n) v = _
      rw [f_X11_writeClaim_0, pf, el_l, f_X11_writeClaim_11, hsl]
      exact c2
    have hp : p_X11_writeClaim (nI n) v := by
      show p_X11_writeClaim_0 (nI n) v
      rw [p_X11_writeClaim_0, pf]
      refine ⟨pp, fun r' hr' => ?_⟩
      cases hr'
      rw [p_X11_writeClaim_11, hsl]
      exact ⟨rfl, c1⟩
    rw [hf]
    refine ⟨hp, Or.inr ⟨_, trivial, rfl, fun u hu => ?_⟩⟩
    have hu : u.1 = (cT v (tClm n (v.1 560 (72 + 12 * k + 2)) s r q (0, v.1 558))).1 := hu
    have hu0 : u.1 560 = v.1 560 := by rw [hu, cT_ne _ _ (by omega) (by omega)]
    have hP := P_X12_claim (nI n) u (n := nc) (by rw [hu0]; exact hw.2.1) n5
    have hF := F_X12_claim (nI n) u (n := nc) (by rw [hu0]; exact hw.2.1) n5
    have hP2 := P_X12_claim (nI n) (thr u (nI 0)) (n := nc) (by rw [thr_560, hu0]; exact hw.2.1) n5
    have hF2 := F_X12_claim (nI n) (thr u (nI 0)) (n := nc) (by rw [thr_560, hu0]; exact hw.2.1) n5
    rw [hu0, e, oN_s] at hF
    rw [thr_560, hu0, e, oN_s] at hF2
    have hck := F_checked (nI 1) u
    rw [if_neg n10] at hck
    have hck' : f_X12_checked (1 : Int32) u = (nI 0, thr u (nI 0)) := hck
    have l0 : nI 0 ≤ 0 := le00
    have hlt : ¬ nI k < 0 := nI_pos (by omega)
    obtain ⟨d1, d2⟩ := K_wclm12 (u := thr u (nI 0)) (w := v.1 560) (by rw [thr_560]; exact hu0) (show k < 12 by omega) hn hs hr hq rfl es er eq (0, (thr u (nI 0)).1 566) rfl
    have hmt : vM (thr u (nI 0)) 559 12 (0 : Int32) = mT (thr u (nI 0)) (0, (thr u (nI 0)).1 566) := mT_of u
    have hm : p_X12_writeClaim (nI n) u ∧ f_X12_writeClaim (nI n) u = (nI (tClm n (v.1 560 (72 + 12 * k + 2)) s r q (0, (thr u (nI 0)).1 566)).1, mT (thr u (nI 0)) (tClm n (v.1 560 (72 + 12 * k + 2)) s r q (0, (thr u (nI 0)).1 566))) := by
      constructor
      · show p_X12_writeClaim_0 (nI n) u
        rw [p_X12_writeClaim_0, hF]
        refine ⟨hP, fun h => absurd h hlt, fun _ => ?_⟩
        rw [p_X12_writeClaim_14, hck']
        refine ⟨P_checked _ _, ?_⟩
        rw [p_X12_writeClaim_17, hF2, hmt]
        exact ⟨fun _ => ⟨hP2, d1⟩, fun _ => trivial⟩
      · show f_X12_writeClaim_0 (nI n) u = _
        rw [f_X12_writeClaim_0, hF, if_neg hlt, f_X12_writeClaim_14, hck', f_X12_writeClaim_17, if_pos l0, hF2, hmt]
        exact d2
    have hE := tE_clm n s r q a4 (tE_0 (v.1 558) ((thr u (nI 0)).1 566))
    rw [hm.2]
    refine ⟨hm.1, ?_, ?_, rfl, ?_⟩
    · rw [mT_559, upd_ne (by omega)]
      exact thr_6 u _
    · show nI (tClm n (v.1 560 (72 + 12 * k + 2)) s r q (0, (thr u (nI 0)).1 566)).1 = nI (tClm n (v.1 560 (72 + 12 * k + 2)) s r q (0, v.1 558)).1
      rw [hE.1]
    · exact (J_txt hJ hu hE (tClm_b n _ s r q rfl hn hs hr hq)).mono (by omega)
/-! a letter of the output -/
theorem A_outputAt (x : Int32) {B : Nat} : Ans (fun v => (f_X11_outputAt x v, v)) (p_X11_outputAt x) (f_X12_outputAt x) (p_X12_outputAt x) eI oy1 (any Int32) B := by
  intro v hJ
  obtain ⟨-, -, -, -, ⟨n, hn, o1, o2, o3⟩, -⟩ := id hJ
  have hlen : f_J4_length_8abf5 557 v = nI n := o1
  have hF := F_X11_checkedIndex x (nI n) v
  have hP := P_X11_checkedIndex x (nI n) v
  have hJm : ∀ (u : gV) (y : Int32), u.1 = v.1 → J (B + 64) (thr u y) := fun u y hu => ((hJ.one hu).sc (thr_Th u y).sc).mono (by omega)
  cases hx : inx x (nI n) with
  | false =>
    have hF : f_X11_checkedIndex x (nI n) v = Sum.inr "java/lang/IndexOutOfBoundsException" := by rw [hF, hx]; rfl
    have hf : f_X11_outputAt x v = Sum.inr "java/lang/IndexOutOfBoundsException" := by
      show f_X11_outputAt_0 x v = _
      rw [f_X11_outputAt_0, hlen, hF]
      rfl
    have hp : p_X11_outputAt x v := by
      show p_X11_outputAt_0 x v
      rw [p_X11_outputAt_0, hlen, hF]
      exact ⟨trivial, hP, fun r hr => by cases hr⟩
    refine ⟨hp, Or.inl ⟨nI 1, rfl, n10, hf, fun u hu => ?_⟩⟩
    have hu : u.1 = v.1 := hu
    have hI : f_X12_in x (0 : Int32) (nI n - (1 : Int32)) u = nI 0 := by
      have e := F_X12_in x (nI 0) (nI n - nI 1) u
      rw [inb_inx (by omega), hx] at e
      exact e
    have u12 : u.1 559 12 = nI n := by rw [hu]; exact o2
    have hck := F_checked (nI 0) u
    rw [if_pos rfl] at hck
    have l1 : ¬ nI 1 ≤ 0 := le10
    have hm : p_X12_outputAt x u ∧ (f_X12_outputAt x u).2 = thr u (nI 1) := by
      constructor
      · show p_X12_outputAt_0 x u
        rw [p_X12_outputAt_0, u12, hI, hck]
        refine ⟨P_X12_in _ _ _ _, P_checked _ _, ?_⟩
        rw [p_X12_outputAt_15]
        exact ⟨fun h => absurd h l1, fun _ => And.intro (by decide +kernel) trivial⟩
      · show (f_X12_outputAt_0 x u).2 = _
        rw [f_X12_outputAt_0, u12, hI, hck, f_X12_outputAt_15, if_neg l1]
        rfl
    rw [hm.2]
    exact ⟨hm.1, thr_6 u _, hJm u _ hu⟩
  | true =>
    obtain ⟨k, hk, rfl⟩ := inx_n (by omega) hx
    obtain ⟨b1, b2, b3⟩ := o3 k hk
    have hF : f_X11_checkedIndex (nI k) (nI n) v = Sum.inl (nI k) := by rw [hF, hx]; rfl
    have hcl : (nI k).toNatClampNeg = k := cl_n (by omega)
    have hch : f_J4_charAt_5068e 557 (nI k) v = v.1 566 k := by
      show v.1 (557 + 1) (nI k).toNatClampNeg = _
      rw [hcl]
      exact b1
    obtain ⟨c, hc, ec⟩ := nI_ofI (x := v.1 566 k) (m := 127) (by omega) (by omega)
    have hnar : ∀ c, c < 127 → narrow .char (.int (nI c)) = .int (nI c) ∧ ((nI c).toUInt32 % 65536).toInt32 = nI c := by decide +kernel
    obtain ⟨n1, n2⟩ := hnar c hc
    have hf : f_X11_outputAt (nI k) v = Sum.inl (v.1 566 k) := by
      show f_X11_outputAt_0 (nI k) v = _
      rw [f_X11_outputAt_0, hlen, hF, el_l, f_X11_outputAt_15, hch]
    have hp : p_X11_outputAt (nI k) v := by
      show p_X11_outputAt_0 (nI k) v
      rw [p_X11_outputAt_0, hlen, hF]
      refine ⟨trivial, hP, fun r hr => ?_⟩
      cases hr
      rw [p_X11_outputAt_15, hch, ec]
      refine ⟨?_, n1, trivial⟩
      show vp_in (nI k) (v.1 557 3).toNatClampNeg
      rw [o1, cl_n (by omega)]
      exact vi_n hk (by omega)
    refine ⟨hp, Or.inr ⟨v.1 566 k, trivial, hf, fun u hu => ?_⟩⟩
    have hu : u.1 = v.1 := hu
    have hI : f_X12_in (nI k) (0 : Int32) (nI n - (1 : Int32)) u = nI 1 := by
      have e := F_X12_in (nI k) (nI 0) (nI n - nI 1) u
      rw [inb_inx (by omega), hx] at e
      exact e
    have u12 : u.1 559 12 = nI n := by rw [hu]; exact o2
    have hck := F_checked (nI 1) u
    rw [if_neg n10] at hck
    have l0 : nI 0 ≤ 0 := le00
    have u566 : (thr u (nI 0)).1 566 k = nI c := by rw [thr_1 _ _ (by omega), hu]; exact ec
    have hm : p_X12_outputAt (nI k) u ∧ f_X12_outputAt (nI k) u = (nI c, thr u (nI 0)) := by
      constructor
      · show p_X12_outputAt_0 (nI k) u
        rw [p_X12_outputAt_0, u12, hI, hck]
        refine ⟨P_X12_in _ _ _ _, P_checked _ _, ?_⟩
        rw [p_X12_outputAt_15, hcl, u566, n2]
        exact ⟨fun _ => ⟨vi_n (by omega) (by omega), And.intro n1 trivial⟩, fun h => absurd l0 h⟩
      · show f_X12_outputAt_0 (nI k) u = _
        rw [f_X12_outputAt_0, u12, hI, hck, f_X12_outputAt_15, if_pos l0, hcl, u566, n2]
        rfl
    rw [hm.2]
    exact ⟨hm.1, thr_6 u _, ec.symm, rfl, hJm u _ hu⟩
/-! a letter typed -/
theorem J_typ {B : Nat} {v u : gV} (hJ : J B v) (h1 : ∀ j, j = 0 ∨ 51 ≤ j → ¬ j = 554 → ¬ j = 555 → ¬ j = 559 → ¬ j = 567 → u.1 j = v.1 j) (h2 : ∀ k, ¬ k = 6 → ¬ k = 16 → u.1 559 k = v.1 559 k) (h3 : ∀ o k, rel o k → u.1 (1 + o) k = v.1 (1 + o) k) (hT : JT u) : J B u := by
  obtain ⟨j1, j2, j3, j4, j5, j6⟩ := hJ
  refine ⟨?_, ?_, ?_, hT, ?_, ?_⟩
  · rw [h1 560 (by omega) (by omega) (by omega) (by omega) (by omega)]
    exact j1.copy h3
  · exact JH_same j2 (h1 101 (by omega) (by omega) (by omega) (by omega) (by omega)) (h2 7 (by omega) (by omega)) (h1 563 (by omega) (by omega) (by omega) (by omega) (by omega)) fun o d _ _ _ _ j a b _ => h1 j (by omega) (by omega) (by omega) (by omega) (by omega)
  · unfold JS
    rw [h1 0 (by omega) (by omega) (by omega) (by omega) (by omega), h2 10 (by omega) (by omega), h1 562 (by omega) (by omega) (by omega) (by omega) (by omega)]
    exact j3.imp id fun ⟨a, b, c⟩ => ⟨a, b, c.same fun j a b => h1 j (by omega) (by omega) (by omega) (by omega) (by omega)⟩
  · unfold JO
    rw [h1 557 (by omega) (by omega) (by omega) (by omega) (by omega), h1 558 (by omega) (by omega) (by omega) (by omega) (by omega), h2 12 (by omega) (by omega), h1 566 (by omega) (by omega) (by omega) (by omega) (by omega)]
    exact j5
  · unfold JE
    rw [h1 0 (by omega) (by omega) (by omega) (by omega) (by omega), h2 8 (by omega) (by omega), h2 9 (by omega) (by omega)]
    exact j6
theorem A_type (x : Int32) {B : Nat} : Ans (f_X11_type x) (p_X11_type x) (f_X12_type x) (p_X12_type x) eTre oy2 (any Int32) B := by
  intro v hJ
  obtain ⟨-, -, -, ⟨n, hn, t1, t2, t3⟩, -, -⟩ := id hJ
  have hlen : f_J4_length_8abf5 554 v = nI n := t1
  have hF := F_X11_checkedNumber x (nI 32) (nI 126) v
  have hP := P_X11_checkedNumber x (nI 32) (nI 126) v
  have hJm : ∀ (u : gV) (y : Int32), u.1 = v.1 → J (B + 64) (thr u y) := fun u y hu => ((hJ.one hu).sc (thr_Th u y).sc).mono (by omega)
  have n20 : ¬ nI 2 = nI 0 := by decide +kernel
  have l1 : ¬ nI 1 ≤ 0 := le10
  have l2 : ¬ nI 2 ≤ 0 := le20
  have l0 : nI 0 ≤ 0 := le00
  cases hx : inb x (nI 32) (nI 126) with
  | false =>
    have hF : f_X11_checkedNumber x (32 : Int32) (126 : Int32) v = Sum.inr "java/lang/IllegalArgumentException" := by
      have e := hF
      rw [hx] at e
      exact e
    have hf : f_X11_type x v = (Sum.inr "java/lang/IllegalArgumentException", v) := by
      show f_X11_type_0 x v = _
      rw [f_X11_type_0, hF]
      rfl
    have hp : p_X11_type x v := by
      show p_X11_type_0 x v
      rw [p_X11_type_0, hF]
      exact ⟨hP, fun r hr => by cases hr⟩
    rw [hf]
    refine ⟨hp, Or.inl ⟨nI 1, Or.inl rfl, n10, rfl, fun u hu => ?_⟩⟩
    have hu : u.1 = v.1 := hu
    have hI : f_X12_in x (32 : Int32) (126 : Int32) u = 0 := by
      have e := F_X12_in x (nI 32) (nI 126) u
      rw [hx] at e
      exact e
    have ht : (thr u (nI 1)).1 559 6 = nI 1 := thr_6 u _
    have hm : p_X12_type x u ∧ f_X12_type x u = (0, thr u (nI 1)) := by
      constructor
      · show p_X12_type_0 x u
        rw [p_X12_type_0]
        refine ⟨P_X12_in _ _ _ _, fun _ => ?_, fun h => absurd hI h⟩
        show p_X12_type_33 x (thr u (nI 1))
        rw [p_X12_type_33, ht]
        exact ⟨fun h => absurd h l1, fun _ => trivial⟩
      · show f_X12_type_0 x u = _
        rw [f_X12_type_0, if_pos hI]
        show f_X12_type_33 x (thr u (nI 1)) = _
        rw [f_X12_type_33, ht, if_neg l1]
    rw [hm.2]
    exact ⟨hm.1, ht, hJm u _ hu⟩
  | true =>
    have hxb := inb_t.mp hx
    rw [tI (by omega), tI (by omega)] at hxb
    obtain ⟨c, hc, rfl⟩ := nI_ofI (x := x) (m := 127) (by omega) (by omega)
    rw [tI (by omega)] at hxb
    have hnar : ∀ c, c < 127 → ((nI c).toUInt32 % 65536).toInt32 = nI c := by decide +kernel
    have hcc := hnar c hc
    have hF : f_X11_checkedNumber (nI c) (32 : Int32) (126 : Int32) v = Sum.inl (nI c) := by
      have e := hF
      rw [hx] at e
      exact e
    by_cases h60 : n = 60
    · have hlt : ¬ nI n < (60 : Int32) := by
        show ¬ nI n < nI 60
        rw [lt_n (by omega) (by omega)]
        omega
      have ha : f_X7_append (nI c) v = (Sum.inr "java/lang/IllegalStateException", v) := by
        show f_X7_append_0 (nI c) v = _
        rw [f_X7_append_0, hlen, if_neg hlt]
      have hap : p_X7_append (nI c) v := by
        show p_X7_append_0 (nI c) v
        rw [p_X7_append_0, hlen]
        exact ⟨trivial, fun h => absurd h hlt, fun _ => trivial⟩
      have hf : f_X11_type (nI c) v = (Sum.inr "java/lang/IllegalStateException", v) := by
        show f_X11_type_0 (nI c) v = _
        rw [f_X11_type_0, hF, el_l, f_X11_type_12, hcc, ha]
        rfl
      have hp : p_X11_type (nI c) v := by
        show p_X11_type_0 (nI c) v
        rw [p_X11_type_0, hF]
        refine ⟨hP, fun r hr => ?_⟩
        cases hr
        rw [p_X11_type_12, hcc]
        exact ⟨hap, fun _ _ => trivial⟩
      rw [hf]
      refine ⟨hp, Or.inl ⟨nI 2, Or.inr rfl, n20, rfl, fun u hu => ?_⟩⟩
      have hu : u.1 = v.1 := hu
      have hI : ¬ f_X12_in (nI c) (32 : Int32) (126 : Int32) u = 0 := by
        have e := F_X12_in (nI c) (nI 32) (nI 126) u
        rw [hx, if_pos rfl] at e
        have e' : f_X12_in (nI c) (32 : Int32) (126 : Int32) u = nI 1 := e
        rw [e']
        exact n10
      have u16 : u.1 559 16 = (60 : Int32) := by rw [hu, t2, h60]; rfl
      have ht : (thr u (nI 2)).1 559 6 = nI 2 := thr_6 u _
      have hm : p_X12_type (nI c) u ∧ f_X12_type (nI c) u = (0, thr u (nI 2)) := by
        constructor
        · show p_X12_type_0 (nI c) u
          rw [p_X12_type_0]
          refine ⟨P_X12_in _ _ _ _, fun h => absurd h hI, fun _ => ⟨fun _ => ?_, fun h => absurd u16 h⟩⟩
          show p_X12_type_33 (nI c) (thr u (nI 2))
          rw [p_X12_type_33, ht]
          exact ⟨fun h => absurd h l2, fun _ => trivial⟩
        · show f_X12_type_0 (nI c) u = _
          rw [f_X12_type_0, if_neg hI, if_pos u16]
          show f_X12_type_33 (nI c) (thr u (nI 2)) = _
          rw [f_X12_type_33, ht, if_neg l2]
      rw [hm.2]
      exact ⟨hm.1, ht, hJm u _ hu⟩
    · have hlt : nI n < (60 : Int32) := by
        show nI n < nI 60
        rw [lt_n (by omega) (by omega)]
        omega
      have hw : f_J4_append_cf468 554 (nI c) v = vRow (vRow v 554 (upd (v.1 554) 3 (nI (n + 1)))) 555 (upd (v.1 555) n (nI c)) := by
        show vRow (vM v 554 3 (v.1 554 3 + 1)) 555 (upd (v.1 555) (v.1 554 3).toNatClampNeg (nI c)) = _
        rw [vM_rw, t1, cl_n (by omega), nI_1]
      have z0 : (0 : Int32).toInt = 0 := rfl
      have hwp : p_J4_append_cf468 554 (nI c) v := by
        refine ⟨?_, nI_pos (by omega), ?_⟩
        · rw [t1, cl_n (by omega)]
          omega
        · rw [cl_n (by omega)]
          omega
      generalize hv2 : vRow (vRow v 554 (upd (v.1 554) 3 (nI (n + 1)))) 555 (upd (v.1 555) n (nI c)) = v2 at hw
      have v554 : v2.1 554 = upd (v.1 554) 3 (nI (n + 1)) := by rw [← hv2, vRow_ne _ _ (by omega), vRow_eq]
      have v555 : v2.1 555 = upd (v.1 555) n (nI c) := by rw [← hv2, vRow_eq]
      have vne : ∀ j, ¬ j = 554 → ¬ j = 555 → v2.1 j = v.1 j := fun j a b => by rw [← hv2, vRow_ne _ _ b, vRow_ne _ _ a]
      have hlen2 : f_J4_length_8abf5 554 v2 = nI (n + 1) := by
        show v2.1 554 3 = _
        rw [v554, upd_eq]
      have ha : f_X7_append (nI c) v = (Sum.inl (nI (n + 1)), v2) := by
        show f_X7_append_0 (nI c) v = _
        rw [f_X7_append_0, hlen, if_pos hlt, hw]
        show (Sum.inl (f_J4_length_8abf5 554 v2), v2) = _
        rw [hlen2]
      have hap : p_X7_append (nI c) v := by
        show p_X7_append_0 (nI c) v
        rw [p_X7_append_0, hlen]
        exact ⟨trivial, fun _ => ⟨hwp, And.intro trivial trivial⟩, fun h => absurd hlt h⟩
      have hf : f_X11_type (nI c) v = (Sum.inl (nI (n + 1)), v2) := by
        show f_X11_type_0 (nI c) v = _
        rw [f_X11_type_0, hF, el_l, f_X11_type_12, hcc, ha]
        rfl
      have hp : p_X11_type (nI c) v := by
        show p_X11_type_0 (nI c) v
        rw [p_X11_type_0, hF]
        refine ⟨hP, fun r hr => ?_⟩
        cases hr
        rw [p_X11_type_12, hcc]
        exact ⟨hap, fun _ _ => trivial⟩
      rw [hf]
      refine ⟨hp, Or.inr ⟨_, trivial, rfl, fun u hu => ?_⟩⟩
      have hu : u.1 = v2.1 := hu
      have hI : ¬ f_X12_in (nI c) (32 : Int32) (126 : Int32) u = 0 := by
        have e := F_X12_in (nI c) (nI 32) (nI 126) u
        rw [hx, if_pos rfl] at e
        have e' : f_X12_in (nI c) (32 : Int32) (126 : Int32) u = nI 1 := e
        rw [e']
        exact n10
      have u16n : u.1 559 16 = nI n := by rw [hu, vne 559 (by omega) (by omega)]; exact t2
      have u16 : ¬ u.1 559 16 = (60 : Int32) := by
        rw [u16n]
        show ¬ nI n = nI 60
        rw [eq_n (by omega) (by omega)]
        exact h60
      have ht : (thr u (nI 0)).1 559 6 = nI 0 := thr_6 u _
      have ht16 : (thr u (nI 0)).1 559 16 = nI n := by rw [(thr_Th u (nI 0)).2.1, upd_ne (by omega)]; exact u16n
      have h52 : f_X12_type_52 (vM (thr u (nI 0)) 567 n (nI c)) = (nI (n + 1), vRow (vRow (thr u (nI 0)) 567 (upd (u.1 567) n (nI c))) 559 (upd (upd (u.1 559) 6 (nI 0)) 16 (nI (n + 1)))) := by
        have e0 : vM (thr u (nI 0)) 567 n (nI c) = vRow (thr u (nI 0)) 567 (upd (u.1 567) n (nI c)) := by rw [vM_rw, thr_1 u _ (by omega)]
        rw [e0]
        have e1 : (vRow (thr u (nI 0)) 567 (upd (u.1 567) n (nI c))).1 559 = upd (u.1 559) 6 (nI 0) := by rw [vRow_ne _ _ (by omega)]; exact (thr_Th u (nI 0)).2.1
        have e2 : upd (u.1 559) 6 (nI 0) 16 = nI n := by rw [upd_ne (by omega)]; exact u16n
        show f_X12_type_62 (vM (vRow (thr u (nI 0)) 567 (upd (u.1 567) n (nI c))) 559 16 ((vRow (thr u (nI 0)) 567 (upd (u.1 567) n (nI c))).1 559 16 + (1 : Int32))) = _
        rw [vM_rw, e1, e2, nI_1]
        show ((vRow (vRow (thr u (nI 0)) 567 (upd (u.1 567) n (nI c))) 559 (upd (upd (u.1 559) 6 (nI 0)) 16 (nI (n + 1)))).1 559 16, _) = _
        rw [vRow_eq, upd_eq]
      have hm : p_X12_type (nI c) u ∧ f_X12_type (nI c) u = (nI (n + 1), vRow (vRow (thr u (nI 0)) 567 (upd (u.1 567) n (nI c))) 559 (upd (upd (u.1 559) 6 (nI 0)) 16 (nI (n + 1)))) := by
        constructor
        · show p_X12_type_0 (nI c) u
          rw [p_X12_type_0]
          refine ⟨P_X12_in _ _ _ _, fun h => absurd h hI, fun _ => ⟨fun h => absurd h u16, fun _ => ?_⟩⟩
          show p_X12_type_33 (nI c) (thr u (nI 0))
          rw [p_X12_type_33, ht, ht16]
          exact ⟨fun _ => ⟨vi_n (by omega) (by omega), trivial⟩, fun h => absurd l0 h⟩
        · show f_X12_type_0 (nI c) u = _
          rw [f_X12_type_0, if_neg hI, if_neg u16]
          show f_X12_type_33 (nI c) (thr u (nI 0)) = _
          rw [f_X12_type_33, ht, ht16, if_pos l0, cl_n (by omega)]
          exact h52
      rw [hm.2]
      generalize hU : vRow (vRow (thr u (nI 0)) 567 (upd (u.1 567) n (nI c))) 559 (upd (upd (u.1 559) 6 (nI 0)) 16 (nI (n + 1))) = U
      have U559 : U.1 559 = upd (upd (u.1 559) 6 (nI 0)) 16 (nI (n + 1)) := by rw [← hU, vRow_eq]
      have U567 : U.1 567 = upd (u.1 567) n (nI c) := by rw [← hU, vRow_ne _ _ (by omega), vRow_eq]
      have Une : ∀ j, ¬ j = 559 → ¬ j = 567 → U.1 j = u.1 j := fun j a b => by rw [← hU, vRow_ne _ _ a, vRow_ne _ _ b, thr_1 _ _ a]
      have U2 : U.2 = u.2 := by rw [← hU]; rfl
      have u567 : u.1 567 = v.1 567 := by rw [hu, vne 567 (by omega) (by omega)]
      refine ⟨hm.1, ?_, rfl, U2, ?_⟩
      · rw [U559, upd_ne (by omega), upd_eq]
      · refine (J_typ hJ (fun j a b c d e => ?_) (fun k a b => ?_) (fun o k hr => ?_) ⟨n + 1, by omega, ?_, ?_, fun i hi => ?_⟩).mono (by omega)
        · rw [Une j d e, hu, vne j b c]
        · rw [U559, upd_ne b, upd_ne a, hu, vne 559 (by omega) (by omega)]
        · rw [Une _ (by unfold rel at hr; omega) (by unfold rel at hr; omega), hu, vne _ (by unfold rel at hr; omega) (by unfold rel at hr; omega)]
        · rw [Une 554 (by omega) (by omega), hu, v554, upd_eq]
        · rw [U559, upd_eq]
        · rw [Une 555 (by omega) (by omega), hu, v555, U567, u567]
          by_cases ei : i = n
          · subst ei
            rw [upd_eq, upd_eq, tI (by omega)]
            exact ⟨rfl, by omega, by omega⟩
          · rw [upd_ne ei, upd_ne ei]
            exact t3 i (by omega)
