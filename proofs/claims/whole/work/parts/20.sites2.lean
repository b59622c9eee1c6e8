/-! more sites, kinds of cells -/
theorem w_616 : ((Jvm.Cond.code ({ cls := "java/util/Arrays", name := "fill", desc := "([JJ)V" } : Jvm.MethodName) prog_42_method_101_code (5 : Nat) (Option.none : Option Jvm.ClassFile.FieldType))) ∈ wA := wA_of (List.mem_of_getElem? (i := 616) (by decide +kernel)) (by decide +kernel)
theorem w_516 : ((Jvm.Cond.methodLink "PaperBoatInsurer$Book" (167 : Nat) ({ cls := "java/lang/Math", name := "min", desc := "(II)I" } : Jvm.MethodName))) ∈ wA := wA_of (List.mem_of_getElem? (i := 516) (by decide +kernel)) (by decide +kernel)
theorem w_517 : ((Jvm.Cond.static ({ cls := "java/lang/Math", name := "min", desc := "(II)I" } : Jvm.MethodName))) ∈ wA := wA_of (List.mem_of_getElem? (i := 517) (by decide +kernel)) (by decide +kernel)
theorem w_112 : ((Jvm.Cond.initialized "java/lang/Math")) ∈ wA := wA_of (List.mem_of_getElem? (i := 112) (by decide +kernel)) (by decide +kernel)
theorem w_518 : ((Jvm.Cond.code ({ cls := "java/lang/Math", name := "min", desc := "(II)I" } : Jvm.MethodName) prog_29_method_69_code (2 : Nat) (Option.some Jvm.ClassFile.FieldType.int))) ∈ wA := wA_of (List.mem_of_getElem? (i := 518) (by decide +kernel)) (by decide +kernel)
theorem w_1046 : ((Jvm.Cond.methodLink "PaperBoatInsurer$Claims" (45 : Nat) ({ cls := "java/util/Arrays", name := "fill", desc := "([II)V" } : Jvm.MethodName))) ∈ wA := wA_of (List.mem_of_getElem? (i := 1046) (by decide +kernel)) (by decide +kernel)
theorem w_596 : ((Jvm.Cond.static ({ cls := "java/util/Arrays", name := "fill", desc := "([II)V" } : Jvm.MethodName))) ∈ wA := wA_of (List.mem_of_getElem? (i := 596) (by decide +kernel)) (by decide +kernel)
theorem w_123 : ((Jvm.Cond.initialized "java/util/Arrays")) ∈ wA := wA_of (List.mem_of_getElem? (i := 123) (by decide +kernel)) (by decide +kernel)
theorem w_659 : ((Jvm.Cond.methodLink "PaperBoatInsurer$Offers" (50 : Nat) ({ cls := "java/lang/Math", name := "min", desc := "(II)I" } : Jvm.MethodName))) ∈ wA := wA_of (List.mem_of_getElem? (i := 659) (by decide +kernel)) (by decide +kernel)
theorem w_672 : ((Jvm.Cond.methodLink "PaperBoatInsurer$Offers" (66 : Nat) ({ cls := "java/lang/Math", name := "max", desc := "(II)I" } : Jvm.MethodName))) ∈ wA := wA_of (List.mem_of_getElem? (i := 672) (by decide +kernel)) (by decide +kernel)
theorem w_589 : ((Jvm.Cond.static ({ cls := "java/lang/Math", name := "max", desc := "(II)I" } : Jvm.MethodName))) ∈ wA := wA_of (List.mem_of_getElem? (i := 589) (by decide +kernel)) (by decide +kernel)
theorem w_590 : ((Jvm.Cond.code ({ cls := "java/lang/Math", name := "max", desc := "(II)I" } : Jvm.MethodName) prog_29_method_65_code (2 : Nat) (Option.some Jvm.ClassFile.FieldType.int))) ∈ wA := wA_of (List.mem_of_getElem? (i := 590) (by decide +kernel)) (by decide +kernel)
theorem w_848 : ((Jvm.Cond.methodLink "PaperBoatInsurer$Policies" (50 : Nat) ({ cls := "java/lang/Math", name := "max", desc := "(II)I" } : Jvm.MethodName))) ∈ wA := wA_of (List.mem_of_getElem? (i := 848) (by decide +kernel)) (by decide +kernel)
theorem w_499 : ((Jvm.Cond.constantLong "PaperBoatInsurer$Policies" (75 : Nat) (8 : Int64))) ∈ wA := wA_of (List.mem_of_getElem? (i := 499) (by decide +kernel)) (by decide +kernel)
theorem w_614 : ((Jvm.Cond.methodLink "PaperBoatInsurer$Policies" (77 : Nat) ({ cls := "java/util/Arrays", name := "fill", desc := "([JJ)V" } : Jvm.MethodName))) ∈ wA := wA_of (List.mem_of_getElem? (i := 614) (by decide +kernel)) (by decide +kernel)
theorem w_615 : ((Jvm.Cond.static ({ cls := "java/util/Arrays", name := "fill", desc := "([JJ)V" } : Jvm.MethodName))) ∈ wA := wA_of (List.mem_of_getElem? (i := 615) (by decide +kernel)) (by decide +kernel)
theorem w_621 : ((Jvm.Cond.methodLink "PaperBoatInsurer$Policies" (87 : Nat) ({ cls := "java/lang/Math", name := "min", desc := "(II)I" } : Jvm.MethodName))) ∈ wA := wA_of (List.mem_of_getElem? (i := 621) (by decide +kernel)) (by decide +kernel)
theorem w_1807 : ((Jvm.Cond.methodLink "PaperBoatInsurer$Script" (75 : Nat) ({ cls := "java/lang/Math", name := "max", desc := "(II)I" } : Jvm.MethodName))) ∈ wA := wA_of (List.mem_of_getElem? (i := 1807) (by decide +kernel)) (by decide +kernel)
theorem w_595 : ((Jvm.Cond.methodLink "PaperBoatInsurer$Treaties" (50 : Nat) ({ cls := "java/util/Arrays", name := "fill", desc := "([II)V" } : Jvm.MethodName))) ∈ wA := wA_of (List.mem_of_getElem? (i := 595) (by decide +kernel)) (by decide +kernel)
theorem w_588 : ((Jvm.Cond.methodLink "PaperBoatInsurer$Treaties" (70 : Nat) ({ cls := "java/lang/Math", name := "max", desc := "(II)I" } : Jvm.MethodName))) ∈ wA := wA_of (List.mem_of_getElem? (i := 588) (by decide +kernel)) (by decide +kernel)
theorem w_587 : ((Jvm.Cond.methodLink "PaperBoatInsurer$Treaties" (75 : Nat) ({ cls := "java/lang/Math", name := "min", desc := "(II)I" } : Jvm.MethodName))) ∈ wA := wA_of (List.mem_of_getElem? (i := 587) (by decide +kernel)) (by decide +kernel)
theorem w_527 : ((Jvm.Cond.methodLink "PaperBoatInsurer$Triangle" (36 : Nat) ({ cls := "java/lang/Math", name := "min", desc := "(II)I" } : Jvm.MethodName))) ∈ wA := wA_of (List.mem_of_getElem? (i := 527) (by decide +kernel)) (by decide +kernel)
theorem w_1301 : ((Jvm.Cond.constant "PaperBoatInsurer" (203 : Nat) (2147483647 : Int32))) ∈ wA := wA_of (List.mem_of_getElem? (i := 1301) (by decide +kernel)) (by decide +kernel)
theorem w_575 : ((Jvm.Cond.methodLink "PaperBoatInsurer" (363 : Nat) ({ cls := "java/lang/Math", name := "min", desc := "(II)I" } : Jvm.MethodName))) ∈ wA := wA_of (List.mem_of_getElem? (i := 575) (by decide +kernel)) (by decide +kernel)
theorem w_576 : ((Jvm.Cond.methodLink "PaperBoatInsurer" (368 : Nat) ({ cls := "java/lang/System", name := "arraycopy", desc := "(Ljava/lang/Object;ILjava/lang/Object;II)V" } : Jvm.MethodName))) ∈ wA := wA_of (List.mem_of_getElem? (i := 576) (by decide +kernel)) (by decide +kernel)
theorem w_578 : ((Jvm.Cond.native ({ cls := "java/lang/System", name := "arraycopy", desc := "(Ljava/lang/Object;ILjava/lang/Object;II)V" } : Jvm.MethodName))) ∈ wA := wA_of (List.mem_of_getElem? (i := 578) (by decide +kernel)) (by decide +kernel)
theorem w_577 : ((Jvm.Cond.static ({ cls := "java/lang/System", name := "arraycopy", desc := "(Ljava/lang/Object;ILjava/lang/Object;II)V" } : Jvm.MethodName))) ∈ wA := wA_of (List.mem_of_getElem? (i := 577) (by decide +kernel)) (by decide +kernel)
theorem w_113 : ((Jvm.Cond.initialized "java/lang/System")) ∈ wA := wA_of (List.mem_of_getElem? (i := 113) (by decide +kernel)) (by decide +kernel)
theorem w_2300 : ((Jvm.Cond.constantLong "PaperBoatInsurerModel" (226 : Nat) (8 : Int64))) ∈ wA := wA_of (List.mem_of_getElem? (i := 2300) (by decide +kernel)) (by decide +kernel)
theorem w_2381 : ((Jvm.Cond.constant "PaperBoatInsurerModel" (260 : Nat) (1000000 : Int32))) ∈ wA := wA_of (List.mem_of_getElem? (i := 2381) (by decide +kernel)) (by decide +kernel)
abbrev m_J7_fill_d0a16 : gMd := (yJ7_fill_d0a16, cJ7_fill_d0a16, RJ7, 5, none, [], false)
theorem ok_J7_fill_d0a16 : gOk m_J7_fill_d0a16 := ⟨by decide +kernel, rfl, rfl⟩
theorem cw_J7_fill_d0a16 : gcw m_J7_fill_d0a16 ∈ wA := w_616
theorem mw_X1_167 : gMw RX1 167 Lib.Math.min.name Lib.Math.min.code := ⟨w_516, w_517, w_112, w_518⟩
theorem s_X2_45 : gSS RX2 45 m_J7_fill_53178 2 := ⟨rfl, (List.forall_mem_cons.mpr ⟨w_1046, (List.forall_mem_cons.mpr ⟨w_596, (List.forall_mem_cons.mpr ⟨w_123, (fun _ h => absurd h List.not_mem_nil)⟩)⟩)⟩), cw_J7_fill_53178, ⟨by decide, by decide, by decide +kernel⟩, by decide⟩
theorem mw_X4_50 : gMw RX4 50 Lib.Math.min.name Lib.Math.min.code := ⟨w_659, w_517, w_112, w_518⟩
theorem mw_X4_66 : gMw RX4 66 Lib.Math.max.name Lib.Math.max.code := ⟨w_672, w_589, w_112, w_590⟩
theorem mw_X5_50 : gMw RX5 50 Lib.Math.max.name Lib.Math.max.code := ⟨w_848, w_589, w_112, w_590⟩
theorem k_X5_75 : Cond.constantLong RX5 75 (8 : Int64) ∈ wA := w_499
theorem s_X5_77 : gSS RX5 77 m_J7_fill_d0a16 2 := ⟨rfl, (List.forall_mem_cons.mpr ⟨w_614, (List.forall_mem_cons.mpr ⟨w_615, (List.forall_mem_cons.mpr ⟨w_123, (fun _ h => absurd h List.not_mem_nil)⟩)⟩)⟩), cw_J7_fill_d0a16, ⟨by decide, by decide, by decide +kernel⟩, by decide⟩
theorem mw_X5_87 : gMw RX5 87 Lib.Math.min.name Lib.Math.min.code := ⟨w_621, w_517, w_112, w_518⟩
theorem mw_X7_75 : gMw RX7 75 Lib.Math.max.name Lib.Math.max.code := ⟨w_1807, w_589, w_112, w_590⟩
theorem s_X8_50 : gSS RX8 50 m_J7_fill_53178 2 := ⟨rfl, (List.forall_mem_cons.mpr ⟨w_595, (List.forall_mem_cons.mpr ⟨w_596, (List.forall_mem_cons.mpr ⟨w_123, (fun _ h => absurd h List.not_mem_nil)⟩)⟩)⟩), cw_J7_fill_53178, ⟨by decide, by decide, by decide +kernel⟩, by decide⟩
theorem mw_X8_70 : gMw RX8 70 Lib.Math.max.name Lib.Math.max.code := ⟨w_588, w_589, w_112, w_590⟩
theorem mw_X8_75 : gMw RX8 75 Lib.Math.min.name Lib.Math.min.code := ⟨w_587, w_517, w_112, w_518⟩
theorem mw_X9_36 : gMw RX9 36 Lib.Math.min.name Lib.Math.min.code := ⟨w_527, w_517, w_112, w_518⟩
theorem k_X11_203 : Cond.constant RX11 203 (2147483647 : Int32) ∈ wA := w_1301
theorem mw_X11_363 : gMw RX11 363 Lib.Math.min.name Lib.Math.min.code := ⟨w_575, w_517, w_112, w_518⟩
theorem ac_X11_368 : Cond.methodLink RX11 368 arraycopyName ∈ wA ∧ Cond.native arraycopyName ∈ wA ∧ Cond.static arraycopyName ∈ wA ∧ Cond.initialized "java/lang/System" ∈ wA := ⟨w_576, w_578, w_577, w_113⟩
theorem k_X12_226 : Cond.constantLong RX12 226 (8 : Int64) ∈ wA := w_2300
theorem k_X12_260 : Cond.constant RX12 260 (1000000 : Int32) ∈ wA := w_2381
theorem isBk_1 : isBk 1 := Or.inl rfl
theorem isBk_51 : isBk 51 := Or.inr (Or.inl rfl)
theorem isBk_r {i : Int32} (h : vp_in i 9) : isBk (103 + 50 * i.toNatClampNeg) := Or.inr (Or.inr ⟨_, (vp_in_nat h).2, rfl⟩)
theorem lt_b {b o : Nat} (h : isBk b) (ho : o < 50) : b + o < 572 := by
  have := isBk_lt h
  omega
theorem lt_b0 {b : Nat} (h : isBk b) : b < 572 := by
  have := isBk_lt h
  omega
theorem kb_0 {b : Nat} (h : isBk b) : kd (b + 0) = (0, 0) := kd_bk h (by decide)
theorem kb_1 {b : Nat} (h : isBk b) : kd (b + 1) = (0, 4) := kd_bk h (by decide)
theorem kb_2 {b : Nat} (h : isBk b) : kd (b + 2) = (1, 8) := kd_bk h (by decide)
theorem kb_3 {b : Nat} (h : isBk b) : kd (b + 3) = (1, 8) := kd_bk h (by decide)
theorem kb_4 {b : Nat} (h : isBk b) : kd (b + 4) = (1, 8) := kd_bk h (by decide)
theorem kb_5 {b : Nat} (h : isBk b) : kd (b + 5) = (1, 8) := kd_bk h (by decide)
theorem kb_6 {b : Nat} (h : isBk b) : kd (b + 6) = (1, 8) := kd_bk h (by decide)
theorem kb_7 {b : Nat} (h : isBk b) : kd (b + 7) = (1, 8) := kd_bk h (by decide)
theorem kb_8 {b : Nat} (h : isBk b) : kd (b + 8) = (1, 8) := kd_bk h (by decide)
theorem kb_9 {b : Nat} (h : isBk b) : kd (b + 9) = (3, 241) := kd_bk h (by decide)
theorem kb_10 {b : Nat} (h : isBk b) : kd (b + 10) = (0, 1) := kd_bk h (by decide)
theorem kb_11 {b : Nat} (h : isBk b) : kd (b + 11) = (1, 12) := kd_bk h (by decide)
theorem kb_12 {b : Nat} (h : isBk b) : kd (b + 12) = (1, 12) := kd_bk h (by decide)
theorem kb_13 {b : Nat} (h : isBk b) : kd (b + 13) = (2, 12) := kd_bk h (by decide)
theorem kb_14 {b : Nat} (h : isBk b) : kd (b + 14) = (1, 12) := kd_bk h (by decide)
theorem kb_15 {b : Nat} (h : isBk b) : kd (b + 15) = (1, 12) := kd_bk h (by decide)
theorem kb_16 {b : Nat} (h : isBk b) : kd (b + 16) = (1, 12) := kd_bk h (by decide)
theorem kb_17 {b : Nat} (h : isBk b) : kd (b + 17) = (4, 12) := kd_bk h (by decide)
theorem kb_18 {b : Nat} (h : isBk b) : kd (b + 18) = (1, 4) := kd_bk h (by decide)
theorem kb_19 {b : Nat} (h : isBk b) : kd (b + 19) = (1, 4) := kd_bk h (by decide)
theorem kb_20 {b : Nat} (h : isBk b) : kd (b + 20) = (1, 4) := kd_bk h (by decide)
theorem kb_21 {b : Nat} (h : isBk b) : kd (b + 21) = (1, 4) := kd_bk h (by decide)
theorem kb_22 {b : Nat} (h : isBk b) : kd (b + 22) = (1, 4) := kd_bk h (by decide)
theorem kb_23 {b : Nat} (h : isBk b) : kd (b + 23) = (1, 4) := kd_bk h (by decide)
theorem kb_24 {b : Nat} (h : isBk b) : kd (b + 24) = (1, 4) := kd_bk h (by decide)
theorem kb_25 {b : Nat} (h : isBk b) : kd (b + 25) = (1, 4) := kd_bk h (by decide)
theorem kb_26 {b : Nat} (h : isBk b) : kd (b + 26) = (1, 4) := kd_bk h (by decide)
theorem kb_27 {b : Nat} (h : isBk b) : kd (b + 27) = (1, 4) := kd_bk h (by decide)
theorem kb_28 {b : Nat} (h : isBk b) : kd (b + 28) = (1, 4) := kd_bk h (by decide)
theorem kb_29 {b : Nat} (h : isBk b) : kd (b + 29) = (1, 4) := kd_bk h (by decide)
theorem kb_30 {b : Nat} (h : isBk b) : kd (b + 30) = (0, 6) := kd_bk h (by decide)
theorem kb_31 {b : Nat} (h : isBk b) : kd (b + 31) = (1, 4) := kd_bk h (by decide)
theorem kb_32 {b : Nat} (h : isBk b) : kd (b + 32) = (1, 4) := kd_bk h (by decide)
theorem kb_33 {b : Nat} (h : isBk b) : kd (b + 33) = (1, 4) := kd_bk h (by decide)
theorem kb_34 {b : Nat} (h : isBk b) : kd (b + 34) = (1, 4) := kd_bk h (by decide)
theorem kb_35 {b : Nat} (h : isBk b) : kd (b + 35) = (1, 4) := kd_bk h (by decide)
theorem kb_36 {b : Nat} (h : isBk b) : kd (b + 36) = (1, 4) := kd_bk h (by decide)
theorem kb_37 {b : Nat} (h : isBk b) : kd (b + 37) = (0, 7) := kd_bk h (by decide)
theorem kb_38 {b : Nat} (h : isBk b) : kd (b + 38) = (4, 6) := kd_bk h (by decide)
theorem kb_39 {b : Nat} (h : isBk b) : kd (b + 39) = (1, 6) := kd_bk h (by decide)
theorem kb_40 {b : Nat} (h : isBk b) : kd (b + 40) = (1, 6) := kd_bk h (by decide)
theorem kb_41 {b : Nat} (h : isBk b) : kd (b + 41) = (1, 6) := kd_bk h (by decide)
theorem kb_42 {b : Nat} (h : isBk b) : kd (b + 42) = (1, 6) := kd_bk h (by decide)
theorem kb_43 {b : Nat} (h : isBk b) : kd (b + 43) = (1, 6) := kd_bk h (by decide)
theorem kb_44 {b : Nat} (h : isBk b) : kd (b + 44) = (1, 6) := kd_bk h (by decide)
theorem kb_45 {b : Nat} (h : isBk b) : kd (b + 45) = (0, 3) := kd_bk h (by decide)
theorem kb_46 {b : Nat} (h : isBk b) : kd (b + 46) = (1, 8) := kd_bk h (by decide)
theorem kb_47 {b : Nat} (h : isBk b) : kd (b + 47) = (1, 8) := kd_bk h (by decide)
theorem kb_48 {b : Nat} (h : isBk b) : kd (b + 48) = (1, 8) := kd_bk h (by decide)
theorem kb_49 {b : Nat} (h : isBk b) : kd (b + 49) = (1, 100) := kd_bk h (by decide)
theorem kbz {b : Nat} (h : isBk b) : kd b = (0, 0) := kd_bk (o := 0) h (by decide)
theorem kg_17 {b : Nat} {i : Int32} (h : isBk b) (hi : vp_in i 12) : kd (b + 17 + 1 + i.toNatClampNeg) = (1, 4) := by
  have h1 := (vp_in_nat hi).2
  rw [show b + 17 + 1 + i.toNatClampNeg = b + (18 + i.toNatClampNeg) by omega, kd_bk h (by omega)]
  exact (by decide : ∀ a, a < 12 → bkL.getD (18 + a) (1, 0) = (1, 4)) _ h1
theorem kg_38 {b : Nat} {i : Int32} (h : isBk b) (hi : vp_in i 6) : kd (b + 38 + 1 + i.toNatClampNeg) = (1, 6) := by
  have h1 := (vp_in_nat hi).2
  rw [show b + 38 + 1 + i.toNatClampNeg = b + (39 + i.toNatClampNeg) by omega, kd_bk h (by omega)]
  exact (by decide : ∀ a, a < 6 → bkL.getD (39 + a) (1, 0) = (1, 6)) _ h1
theorem lg_17 {b : Nat} {i : Int32} (h : isBk b) (hi : vp_in i 12) : b + 17 + 1 + i.toNatClampNeg < 572 := by
  have h1 := (vp_in_nat hi).2
  have := isBk_lt h
  omega
theorem lg_38 {b : Nat} {i : Int32} (h : isBk b) (hi : vp_in i 6) : b + 38 + 1 + i.toNatClampNeg < 572 := by
  have h1 := (vp_in_nat hi).2
  have := isBk_lt h
  omega
