/-! sites of constructors -/
theorem w_147 : ((Jvm.Cond.methodLink "PaperBoatInsurer$Book" (3 : Nat) ({ cls := "java/lang/Object", name := "<init>", desc := "()V" } : Jvm.MethodName))) ∈ wA := wA_of (List.mem_of_getElem? (i := 147) (by decide +kernel)) (by decide +kernel)
theorem w_140 : ((Jvm.Cond.instanceMethod ({ cls := "java/lang/Object", name := "<init>", desc := "()V" } : Jvm.MethodName))) ∈ wA := wA_of (List.mem_of_getElem? (i := 140) (by decide +kernel)) (by decide +kernel)
theorem w_141 : ((Jvm.Cond.code ({ cls := "java/lang/Object", name := "<init>", desc := "()V" } : Jvm.MethodName) object_method_1_code (1 : Nat) (Option.none : Option Jvm.ClassFile.FieldType))) ∈ wA := wA_of (List.mem_of_getElem? (i := 141) (by decide +kernel)) (by decide +kernel)
theorem w_148 : ((Jvm.Cond.classLink "PaperBoatInsurer$Book" (9 : Nat) "PaperBoatInsurer$Policies")) ∈ wA := wA_of (List.mem_of_getElem? (i := 148) (by decide +kernel)) (by decide +kernel)
theorem w_149 : ((Jvm.Cond.instantiable "PaperBoatInsurer$Policies" (10 : Nat))) ∈ wA := wA_of (List.mem_of_getElem? (i := 149) (by decide +kernel)) (by decide +kernel)
theorem w_211 : ((Jvm.Cond.classLink "PaperBoatInsurer$Book" (18 : Nat) "PaperBoatInsurer$Claims")) ∈ wA := wA_of (List.mem_of_getElem? (i := 211) (by decide +kernel)) (by decide +kernel)
theorem w_212 : ((Jvm.Cond.instantiable "PaperBoatInsurer$Claims" (9 : Nat))) ∈ wA := wA_of (List.mem_of_getElem? (i := 212) (by decide +kernel)) (by decide +kernel)
theorem w_252 : ((Jvm.Cond.classLink "PaperBoatInsurer$Book" (25 : Nat) "PaperBoatInsurer$Treaties")) ∈ wA := wA_of (List.mem_of_getElem? (i := 252) (by decide +kernel)) (by decide +kernel)
theorem w_253 : ((Jvm.Cond.instantiable "PaperBoatInsurer$Treaties" (7 : Nat))) ∈ wA := wA_of (List.mem_of_getElem? (i := 253) (by decide +kernel)) (by decide +kernel)
theorem w_287 : ((Jvm.Cond.classLink "PaperBoatInsurer$Book" (32 : Nat) "PaperBoatInsurer$Triangle")) ∈ wA := wA_of (List.mem_of_getElem? (i := 287) (by decide +kernel)) (by decide +kernel)
theorem w_288 : ((Jvm.Cond.instantiable "PaperBoatInsurer$Triangle" (1 : Nat))) ∈ wA := wA_of (List.mem_of_getElem? (i := 288) (by decide +kernel)) (by decide +kernel)
theorem w_299 : ((Jvm.Cond.classLink "PaperBoatInsurer$Book" (39 : Nat) "PaperBoatInsurer$Offers")) ∈ wA := wA_of (List.mem_of_getElem? (i := 299) (by decide +kernel)) (by decide +kernel)
theorem w_300 : ((Jvm.Cond.instantiable "PaperBoatInsurer$Offers" (5 : Nat))) ∈ wA := wA_of (List.mem_of_getElem? (i := 300) (by decide +kernel)) (by decide +kernel)
theorem w_217 : ((Jvm.Cond.classLink "PaperBoatInsurer$Claims" (28 : Nat) "[[I")) ∈ wA := wA_of (List.mem_of_getElem? (i := 217) (by decide +kernel)) (by decide +kernel)
theorem w_373 : ((Jvm.Cond.methodLink "PaperBoatInsurer$History" (3 : Nat) ({ cls := "java/lang/Object", name := "<init>", desc := "()V" } : Jvm.MethodName))) ∈ wA := wA_of (List.mem_of_getElem? (i := 373) (by decide +kernel)) (by decide +kernel)
theorem w_374 : ((Jvm.Cond.classLink "PaperBoatInsurer$History" (9 : Nat) "PaperBoatInsurer$Book")) ∈ wA := wA_of (List.mem_of_getElem? (i := 374) (by decide +kernel)) (by decide +kernel)
theorem w_143 : ((Jvm.Cond.instantiable "PaperBoatInsurer$Book" (12 : Nat))) ∈ wA := wA_of (List.mem_of_getElem? (i := 143) (by decide +kernel)) (by decide +kernel)
theorem w_304 : ((Jvm.Cond.methodLink "PaperBoatInsurer$Offers" (3 : Nat) ({ cls := "java/lang/Object", name := "<init>", desc := "()V" } : Jvm.MethodName))) ∈ wA := wA_of (List.mem_of_getElem? (i := 304) (by decide +kernel)) (by decide +kernel)
theorem w_156 : ((Jvm.Cond.methodLink "PaperBoatInsurer$Register" (1 : Nat) ({ cls := "java/lang/Object", name := "<init>", desc := "()V" } : Jvm.MethodName))) ∈ wA := wA_of (List.mem_of_getElem? (i := 156) (by decide +kernel)) (by decide +kernel)
theorem w_392 : ((Jvm.Cond.methodLink "PaperBoatInsurer$Script" (3 : Nat) ({ cls := "java/lang/Object", name := "<init>", desc := "()V" } : Jvm.MethodName))) ∈ wA := wA_of (List.mem_of_getElem? (i := 392) (by decide +kernel)) (by decide +kernel)
theorem w_393 : ((Jvm.Cond.classLink "PaperBoatInsurer$Script" (9 : Nat) "java/lang/StringBuilder")) ∈ wA := wA_of (List.mem_of_getElem? (i := 393) (by decide +kernel)) (by decide +kernel)
theorem w_394 : ((Jvm.Cond.instantiable "java/lang/StringBuilder" (4 : Nat))) ∈ wA := wA_of (List.mem_of_getElem? (i := 394) (by decide +kernel)) (by decide +kernel)
theorem w_395 : ((Jvm.Cond.methodLink "PaperBoatInsurer$Script" (11 : Nat) ({ cls := "java/lang/StringBuilder", name := "<init>", desc := "()V" } : Jvm.MethodName))) ∈ wA := wA_of (List.mem_of_getElem? (i := 395) (by decide +kernel)) (by decide +kernel)
theorem w_396 : ((Jvm.Cond.instanceMethod ({ cls := "java/lang/StringBuilder", name := "<init>", desc := "()V" } : Jvm.MethodName))) ∈ wA := wA_of (List.mem_of_getElem? (i := 396) (by decide +kernel)) (by decide +kernel)
theorem w_257 : ((Jvm.Cond.methodLink "PaperBoatInsurer$Treaties" (3 : Nat) ({ cls := "java/lang/Object", name := "<init>", desc := "()V" } : Jvm.MethodName))) ∈ wA := wA_of (List.mem_of_getElem? (i := 257) (by decide +kernel)) (by decide +kernel)
theorem w_292 : ((Jvm.Cond.methodLink "PaperBoatInsurer$Triangle" (3 : Nat) ({ cls := "java/lang/Object", name := "<init>", desc := "()V" } : Jvm.MethodName))) ∈ wA := wA_of (List.mem_of_getElem? (i := 292) (by decide +kernel)) (by decide +kernel)
theorem w_293 : ((Jvm.Cond.classLink "PaperBoatInsurer$Triangle" (9 : Nat) "[[I")) ∈ wA := wA_of (List.mem_of_getElem? (i := 293) (by decide +kernel)) (by decide +kernel)
theorem w_139 : ((Jvm.Cond.methodLink "PaperBoatInsurer" (1 : Nat) ({ cls := "java/lang/Object", name := "<init>", desc := "()V" } : Jvm.MethodName))) ∈ wA := wA_of (List.mem_of_getElem? (i := 139) (by decide +kernel)) (by decide +kernel)
theorem w_142 : ((Jvm.Cond.classLink "PaperBoatInsurer" (7 : Nat) "PaperBoatInsurer$Book")) ∈ wA := wA_of (List.mem_of_getElem? (i := 142) (by decide +kernel)) (by decide +kernel)
theorem w_368 : ((Jvm.Cond.classLink "PaperBoatInsurer" (19 : Nat) "PaperBoatInsurer$History")) ∈ wA := wA_of (List.mem_of_getElem? (i := 368) (by decide +kernel)) (by decide +kernel)
theorem w_369 : ((Jvm.Cond.instantiable "PaperBoatInsurer$History" (3 : Nat))) ∈ wA := wA_of (List.mem_of_getElem? (i := 369) (by decide +kernel)) (by decide +kernel)
theorem w_387 : ((Jvm.Cond.classLink "PaperBoatInsurer" (26 : Nat) "PaperBoatInsurer$Script")) ∈ wA := wA_of (List.mem_of_getElem? (i := 387) (by decide +kernel)) (by decide +kernel)
theorem w_388 : ((Jvm.Cond.instantiable "PaperBoatInsurer$Script" (4 : Nat))) ∈ wA := wA_of (List.mem_of_getElem? (i := 388) (by decide +kernel)) (by decide +kernel)
theorem w_440 : ((Jvm.Cond.classLink "PaperBoatInsurer" (33 : Nat) "java/lang/StringBuilder")) ∈ wA := wA_of (List.mem_of_getElem? (i := 440) (by decide +kernel)) (by decide +kernel)
theorem w_441 : ((Jvm.Cond.methodLink "PaperBoatInsurer" (35 : Nat) ({ cls := "java/lang/StringBuilder", name := "<init>", desc := "()V" } : Jvm.MethodName))) ∈ wA := wA_of (List.mem_of_getElem? (i := 441) (by decide +kernel)) (by decide +kernel)
theorem w_1904 : ((Jvm.Cond.methodLink "PaperBoatInsurerModel" (1 : Nat) ({ cls := "java/lang/Object", name := "<init>", desc := "()V" } : Jvm.MethodName))) ∈ wA := wA_of (List.mem_of_getElem? (i := 1904) (by decide +kernel)) (by decide +kernel)
theorem w_134 : ((Jvm.Cond.classLink "PaperBoatInsurerLaw" (8 : Nat) "PaperBoatInsurer")) ∈ wA := wA_of (List.mem_of_getElem? (i := 134) (by decide +kernel)) (by decide +kernel)
theorem w_135 : ((Jvm.Cond.instantiable "PaperBoatInsurer" (8 : Nat))) ∈ wA := wA_of (List.mem_of_getElem? (i := 135) (by decide +kernel)) (by decide +kernel)
theorem w_136 : ((Jvm.Cond.methodLink "PaperBoatInsurerLaw" (183 : Nat) ({ cls := "PaperBoatInsurer", name := "<init>", desc := "()V" } : Jvm.MethodName))) ∈ wA := wA_of (List.mem_of_getElem? (i := 136) (by decide +kernel)) (by decide +kernel)
theorem w_1899 : ((Jvm.Cond.classLink "PaperBoatInsurerLaw" (184 : Nat) "PaperBoatInsurerModel")) ∈ wA := wA_of (List.mem_of_getElem? (i := 1899) (by decide +kernel)) (by decide +kernel)
theorem w_1900 : ((Jvm.Cond.instantiable "PaperBoatInsurerModel" (21 : Nat))) ∈ wA := wA_of (List.mem_of_getElem? (i := 1900) (by decide +kernel)) (by decide +kernel)
theorem w_1901 : ((Jvm.Cond.methodLink "PaperBoatInsurerLaw" (186 : Nat) ({ cls := "PaperBoatInsurerModel", name := "<init>", desc := "()V" } : Jvm.MethodName))) ∈ wA := wA_of (List.mem_of_getElem? (i := 1901) (by decide +kernel)) (by decide +kernel)
theorem w_399 : ((Jvm.Cond.instanceMethod ({ cls := "java/lang/AbstractStringBuilder", name := "<init>", desc := "(I)V" } : Jvm.MethodName))) ∈ wA := wA_of (List.mem_of_getElem? (i := 399) (by decide +kernel)) (by decide +kernel)
theorem w_209 : ((Jvm.Cond.arrayClass Jvm.ClassFile.FieldType.int)) ∈ wA := wA_of (List.mem_of_getElem? (i := 209) (by decide +kernel)) (by decide +kernel)
theorem w_251 : ((Jvm.Cond.arrayClass Jvm.ClassFile.FieldType.char)) ∈ wA := wA_of (List.mem_of_getElem? (i := 251) (by decide +kernel)) (by decide +kernel)
theorem w_210 : ((Jvm.Cond.arrayClass Jvm.ClassFile.FieldType.long)) ∈ wA := wA_of (List.mem_of_getElem? (i := 210) (by decide +kernel)) (by decide +kernel)
theorem w_2536 : ((Jvm.Cond.arrayClass Jvm.ClassFile.FieldType.double)) ∈ wA := wA_of (List.mem_of_getElem? (i := 2536) (by decide +kernel)) (by decide +kernel)
theorem oi_X1_3 : gOi0 RX1 3 := ⟨w_147, w_140, w_141⟩
theorem nw_X1_9 : gNw RX1 9 4 := ⟨RX5, TX5, 10, tyX5, rfl, rfl, uw_X5, tyX5_ok, by decide +kernel, w_148, w_149, w_100⟩
theorem nw_X1_18 : gNw RX1 18 1 := ⟨RX2, TX2, 9, tyX2, rfl, rfl, uw_X2, tyX2_ok, by decide +kernel, w_211, w_212, w_101⟩
theorem nw_X1_25 : gNw RX1 25 6 := ⟨RX8, TX8, 7, tyX8, rfl, rfl, uw_X8, tyX8_ok, by decide +kernel, w_252, w_253, w_102⟩
theorem nw_X1_32 : gNw RX1 32 7 := ⟨RX9, TX9, 1, tyX9, rfl, rfl, uw_X9, tyX9_ok, by decide +kernel, w_287, w_288, w_103⟩
theorem nw_X1_39 : gNw RX1 39 3 := ⟨RX4, TX4, 5, tyX4, rfl, rfl, uw_X4, tyX4_ok, by decide +kernel, w_299, w_300, w_104⟩
theorem cl_X2_28 : Cond.classLink RX2 28 "[[I" ∈ wA := w_217
theorem oi_X3_3 : gOi0 RX3 3 := ⟨w_373, w_140, w_141⟩
theorem cl_X3_9 : Cond.classLink RX3 9 "PaperBoatInsurer$Book" ∈ wA := w_374
theorem nw_X3_9 : gNw RX3 9 0 := ⟨RX1, TX1, 12, tyX1, rfl, rfl, uw_X1, tyX1_ok, by decide +kernel, w_374, w_143, w_98⟩
theorem oi_X4_3 : gOi0 RX4 3 := ⟨w_304, w_140, w_141⟩
theorem oi_X6_1 : gOi0 RX6 1 := ⟨w_156, w_140, w_141⟩
theorem oi_X7_3 : gOi0 RX7 3 := ⟨w_392, w_140, w_141⟩
theorem nw_X7_9 : gNw RX7 9 10 := ⟨RJ4, TJ4, 4, tyJ4, rfl, rfl, uw_J4, tyJ4_ok, by decide +kernel, w_393, w_394, w_108⟩
theorem s_X7_11 : gSI RX7 11 m_J4_init_da8c8 0 := ⟨rfl, w_395, w_396, w_108, cw_J4_init_da8c8, rfl, ⟨by decide, by decide, by decide +kernel⟩, by decide⟩
theorem oi_X8_3 : gOi0 RX8 3 := ⟨w_257, w_140, w_141⟩
theorem oi_X9_3 : gOi0 RX9 3 := ⟨w_292, w_140, w_141⟩
theorem cl_X9_9 : Cond.classLink RX9 9 "[[I" ∈ wA := w_293
theorem oi_X11_1 : gOi0 RX11 1 := ⟨w_139, w_140, w_141⟩
theorem nw_X11_7 : gNw RX11 7 0 := ⟨RX1, TX1, 12, tyX1, rfl, rfl, uw_X1, tyX1_ok, by decide +kernel, w_142, w_143, w_98⟩
theorem nw_X11_19 : gNw RX11 19 2 := ⟨RX3, TX3, 3, tyX3, rfl, rfl, uw_X3, tyX3_ok, by decide +kernel, w_368, w_369, w_105⟩
theorem nw_X11_26 : gNw RX11 26 5 := ⟨RX7, TX7, 4, tyX7, rfl, rfl, uw_X7, tyX7_ok, by decide +kernel, w_387, w_388, w_106⟩
theorem nw_X11_33 : gNw RX11 33 10 := ⟨RJ4, TJ4, 4, tyJ4, rfl, rfl, uw_J4, tyJ4_ok, by decide +kernel, w_440, w_394, w_108⟩
theorem s_X11_35 : gSI RX11 35 m_J4_init_da8c8 0 := ⟨rfl, w_441, w_396, w_108, cw_J4_init_da8c8, rfl, ⟨by decide, by decide, by decide +kernel⟩, by decide⟩
theorem oi_X12_1 : gOi0 RX12 1 := ⟨w_1904, w_140, w_141⟩
theorem nw_L_8 : gNw RL 8 8 := ⟨RX11, TX11, 8, tyX11, rfl, rfl, uw_X11, tyX11_ok, by decide +kernel, w_134, w_135, w_97⟩
theorem nw_L_184 : gNw RL 184 9 := ⟨RX12, TX12, 21, tyX12, rfl, rfl, uw_X12, tyX12_ok, by decide +kernel, w_1899, w_1900, w_111⟩
theorem s_J4_1 : gSI RJ4 1 m_J5_init_d00df 1 := ⟨rfl, w_398, w_399, w_107, cw_J5_init_d00df, rfl, ⟨by decide, by decide, by decide +kernel⟩, by decide⟩
theorem oi_J5_3 : gOi0 RJ5 3 := ⟨w_401, w_140, w_141⟩
theorem ai_ : Cond.arrayClass .int ∈ wA := w_209
theorem ac_ : Cond.arrayClass .char ∈ wA := w_251
theorem al_ : Cond.arrayClass .long ∈ wA := w_210
theorem ad_ : Cond.arrayClass .double ∈ wA := w_2536
