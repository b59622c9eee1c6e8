/-! more sites: floorMod, handlers -/
theorem w_738 : ((Jvm.Cond.code ({ cls := "java/lang/Math", name := "floorMod", desc := "(II)I" } : Jvm.MethodName) prog_29_method_50_code (3 : Nat) (Option.some Jvm.ClassFile.FieldType.int))) ∈ wA := wA_of (List.mem_of_getElem? (i := 738) (by decide +kernel)) (by decide +kernel)
theorem w_736 : ((Jvm.Cond.methodLink "PaperBoatInsurer$History" (25 : Nat) ({ cls := "java/lang/Math", name := "floorMod", desc := "(II)I" } : Jvm.MethodName))) ∈ wA := wA_of (List.mem_of_getElem? (i := 736) (by decide +kernel)) (by decide +kernel)
theorem w_737 : ((Jvm.Cond.static ({ cls := "java/lang/Math", name := "floorMod", desc := "(II)I" } : Jvm.MethodName))) ∈ wA := wA_of (List.mem_of_getElem? (i := 737) (by decide +kernel)) (by decide +kernel)
theorem w_1822 : ((Jvm.Cond.classLink "PaperBoatInsurer$Script" (108 : Nat) "java/util/NoSuchElementException")) ∈ wA := wA_of (List.mem_of_getElem? (i := 1822) (by decide +kernel)) (by decide +kernel)
theorem w_880 : ((Jvm.Cond.castable "java/util/NoSuchElementException" "java/util/NoSuchElementException")) ∈ wN := wN_of (List.mem_of_getElem? (i := 880) (by decide +kernel)) (by decide +kernel)
theorem w_1823 : ((Jvm.Cond.classLink "PaperBoatInsurer$Script" (110 : Nat) "java/lang/IllegalArgumentException")) ∈ wA := wA_of (List.mem_of_getElem? (i := 1823) (by decide +kernel)) (by decide +kernel)
theorem w_753 : ((Jvm.Cond.castable "java/lang/IllegalArgumentException" "java/lang/IllegalArgumentException")) ∈ wN := wN_of (List.mem_of_getElem? (i := 753) (by decide +kernel)) (by decide +kernel)
theorem w_834 : ((Jvm.Cond.castable "java/lang/IllegalStateException" "java/lang/IllegalStateException")) ∈ wN := wN_of (List.mem_of_getElem? (i := 834) (by decide +kernel)) (by decide +kernel)
theorem w_1824 : ((Jvm.Cond.classLink "PaperBoatInsurer$Script" (112 : Nat) "java/lang/UnsupportedOperationException")) ∈ wA := wA_of (List.mem_of_getElem? (i := 1824) (by decide +kernel)) (by decide +kernel)
theorem w_1025 : ((Jvm.Cond.castable "java/lang/UnsupportedOperationException" "java/lang/UnsupportedOperationException")) ∈ wN := wN_of (List.mem_of_getElem? (i := 1025) (by decide +kernel)) (by decide +kernel)
theorem w_722 : ((Jvm.Cond.classLink "PaperBoatInsurerLaw" (13 : Nat) "java/lang/IllegalArgumentException")) ∈ wA := wA_of (List.mem_of_getElem? (i := 722) (by decide +kernel)) (by decide +kernel)
theorem w_723 : ((Jvm.Cond.classLink "PaperBoatInsurerLaw" (15 : Nat) "java/lang/IllegalStateException")) ∈ wA := wA_of (List.mem_of_getElem? (i := 723) (by decide +kernel)) (by decide +kernel)
theorem w_860 : ((Jvm.Cond.classLink "PaperBoatInsurerLaw" (21 : Nat) "java/util/NoSuchElementException")) ∈ wA := wA_of (List.mem_of_getElem? (i := 860) (by decide +kernel)) (by decide +kernel)
theorem w_937 : ((Jvm.Cond.classLink "PaperBoatInsurerLaw" (30 : Nat) "java/lang/IndexOutOfBoundsException")) ∈ wA := wA_of (List.mem_of_getElem? (i := 937) (by decide +kernel)) (by decide +kernel)
theorem w_974 : ((Jvm.Cond.castable "java/lang/IndexOutOfBoundsException" "java/lang/IndexOutOfBoundsException")) ∈ wN := wN_of (List.mem_of_getElem? (i := 974) (by decide +kernel)) (by decide +kernel)
theorem w_999 : ((Jvm.Cond.classLink "PaperBoatInsurerLaw" (36 : Nat) "java/lang/UnsupportedOperationException")) ∈ wA := wA_of (List.mem_of_getElem? (i := 999) (by decide +kernel)) (by decide +kernel)
theorem w_1397 : ((Jvm.Cond.classLink "PaperBoatInsurerLaw" (148 : Nat) "java/lang/ArithmeticException")) ∈ wA := wA_of (List.mem_of_getElem? (i := 1397) (by decide +kernel)) (by decide +kernel)
theorem w_1409 : ((Jvm.Cond.castable "java/lang/ArithmeticException" "java/lang/ArithmeticException")) ∈ wN := wN_of (List.mem_of_getElem? (i := 1409) (by decide +kernel)) (by decide +kernel)
abbrev m_J9_floorMod_7cf53 : gMd := (yJ9_floorMod_7cf53, cJ9_floorMod_7cf53, RJ9, 3, (some .int), [], false)
theorem ok_J9_floorMod_7cf53 : gOkF m_J9_floorMod_7cf53 := ⟨by decide +kernel, rfl, rfl⟩
theorem cw_J9_floorMod_7cf53 : gcw m_J9_floorMod_7cf53 ∈ wA := w_738
theorem s_X3_25 : gSS RX3 25 m_J9_floorMod_7cf53 2 := ⟨rfl, (List.forall_mem_cons.mpr ⟨w_736, (List.forall_mem_cons.mpr ⟨w_737, (List.forall_mem_cons.mpr ⟨w_112, (fun _ h => absurd h List.not_mem_nil)⟩)⟩)⟩), cw_J9_floorMod_7cf53, ⟨by decide, by decide, by decide +kernel⟩, by decide⟩
