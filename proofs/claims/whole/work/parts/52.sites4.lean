/-! sites of JDK's own methods -/
theorem w_1688 : ((Jvm.Cond.code ({ cls := "java/lang/StringBuilder", name := "append", desc := "(C)Ljava/lang/StringBuilder;" } : Jvm.MethodName) prog_33_method_14_code (2 : Nat) (Option.some (Jvm.ClassFile.FieldType.object "java/lang/StringBuilder")))) ∈ wA := wA_of (List.mem_of_getElem? (i := 1688) (by decide +kernel)) (by decide +kernel)
theorem w_1691 : ((Jvm.Cond.code ({ cls := "java/lang/AbstractStringBuilder", name := "append", desc := "(C)Ljava/lang/AbstractStringBuilder;" } : Jvm.MethodName) prog_16_method_31_code (2 : Nat) (Option.some (Jvm.ClassFile.FieldType.object "java/lang/AbstractStringBuilder")))) ∈ wA := wA_of (List.mem_of_getElem? (i := 1691) (by decide +kernel)) (by decide +kernel)
theorem w_1463 : ((Jvm.Cond.code ({ cls := "java/lang/AbstractStringBuilder", name := "ensureCapacityInternal", desc := "(I)V" } : Jvm.MethodName) prog_16_method_9_code (3 : Nat) (Option.none : Option Jvm.ClassFile.FieldType))) ∈ wA := wA_of (List.mem_of_getElem? (i := 1463) (by decide +kernel)) (by decide +kernel)
theorem w_1467 : ((Jvm.Cond.code ({ cls := "java/lang/AbstractStringBuilder", name := "newCapacity", desc := "(I)I" } : Jvm.MethodName) prog_16_method_10_code (6 : Nat) (Option.some Jvm.ClassFile.FieldType.int))) ∈ wA := wA_of (List.mem_of_getElem? (i := 1467) (by decide +kernel)) (by decide +kernel)
theorem w_1493 : ((Jvm.Cond.code ({ cls := "java/lang/AbstractStringBuilder", name := "isLatin1", desc := "()Z" } : Jvm.MethodName) prog_16_method_68_code (1 : Nat) (Option.some Jvm.ClassFile.FieldType.boolean))) ∈ wA := wA_of (List.mem_of_getElem? (i := 1493) (by decide +kernel)) (by decide +kernel)
theorem w_1694 : ((Jvm.Cond.code ({ cls := "java/lang/StringLatin1", name := "canEncode", desc := "(C)Z" } : Jvm.MethodName) prog_35_method_3_code (1 : Nat) (Option.some Jvm.ClassFile.FieldType.boolean))) ∈ wA := wA_of (List.mem_of_getElem? (i := 1694) (by decide +kernel)) (by decide +kernel)
theorem w_1470 : ((Jvm.Cond.code ({ cls := "jdk/internal/util/ArraysSupport", name := "newLength", desc := "(III)I" } : Jvm.MethodName) prog_44_method_27_code (4 : Nat) (Option.some Jvm.ClassFile.FieldType.int))) ∈ wA := wA_of (List.mem_of_getElem? (i := 1470) (by decide +kernel)) (by decide +kernel)
theorem w_1479 : ((Jvm.Cond.code ({ cls := "java/util/Arrays", name := "copyOf", desc := "([BI)[B" } : Jvm.MethodName) prog_42_method_121_code (3 : Nat) (Option.some (Jvm.ClassFile.FieldType.array Jvm.ClassFile.FieldType.byte)))) ∈ wA := wA_of (List.mem_of_getElem? (i := 1479) (by decide +kernel)) (by decide +kernel)
theorem w_1566 : ((Jvm.Cond.code ({ cls := "java/lang/StringBuilder", name := "append", desc := "(I)Ljava/lang/StringBuilder;" } : Jvm.MethodName) prog_33_method_15_code (2 : Nat) (Option.some (Jvm.ClassFile.FieldType.object "java/lang/StringBuilder")))) ∈ wA := wA_of (List.mem_of_getElem? (i := 1566) (by decide +kernel)) (by decide +kernel)
theorem w_1569 : ((Jvm.Cond.code ({ cls := "java/lang/AbstractStringBuilder", name := "append", desc := "(I)Ljava/lang/AbstractStringBuilder;" } : Jvm.MethodName) prog_16_method_32_code (4 : Nat) (Option.some (Jvm.ClassFile.FieldType.object "java/lang/AbstractStringBuilder")))) ∈ wA := wA_of (List.mem_of_getElem? (i := 1569) (by decide +kernel)) (by decide +kernel)
theorem w_1572 : ((Jvm.Cond.code ({ cls := "java/lang/Integer", name := "stringSize", desc := "(I)I" } : Jvm.MethodName) prog_28_method_13_code (4 : Nat) (Option.some Jvm.ClassFile.FieldType.int))) ∈ wA := wA_of (List.mem_of_getElem? (i := 1572) (by decide +kernel)) (by decide +kernel)
theorem w_1575 : ((Jvm.Cond.code ({ cls := "java/lang/Integer", name := "getChars", desc := "(II[B)I" } : Jvm.MethodName) prog_28_method_12_code (7 : Nat) (Option.some Jvm.ClassFile.FieldType.int))) ∈ wA := wA_of (List.mem_of_getElem? (i := 1575) (by decide +kernel)) (by decide +kernel)
theorem w_1726 : ((Jvm.Cond.code ({ cls := "java/lang/StringBuilder", name := "charAt", desc := "(I)C" } : Jvm.MethodName) prog_33_method_88_code (2 : Nat) (Option.some Jvm.ClassFile.FieldType.char))) ∈ wA := wA_of (List.mem_of_getElem? (i := 1726) (by decide +kernel)) (by decide +kernel)
theorem w_1729 : ((Jvm.Cond.code ({ cls := "java/lang/AbstractStringBuilder", name := "charAt", desc := "(I)C" } : Jvm.MethodName) prog_16_method_14_code (5 : Nat) (Option.some Jvm.ClassFile.FieldType.char))) ∈ wA := wA_of (List.mem_of_getElem? (i := 1729) (by decide +kernel)) (by decide +kernel)
theorem w_1703 : ((Jvm.Cond.code ({ cls := "java/lang/String", name := "checkIndex", desc := "(II)V" } : Jvm.MethodName) prog_32_method_155_code (2 : Nat) (Option.none : Option Jvm.ClassFile.FieldType))) ∈ wA := wA_of (List.mem_of_getElem? (i := 1703) (by decide +kernel)) (by decide +kernel)
theorem w_1706 : ((Jvm.Cond.code ({ cls := "jdk/internal/util/Preconditions", name := "checkIndex", desc := "(IILjava/util/function/BiFunction;)I" } : Jvm.MethodName) prog_45_method_11_code (3 : Nat) (Option.some Jvm.ClassFile.FieldType.int))) ∈ wA := wA_of (List.mem_of_getElem? (i := 1706) (by decide +kernel)) (by decide +kernel)
theorem w_1437 : ((Jvm.Cond.code ({ cls := "java/lang/StringBuilder", name := "setLength", desc := "(I)V" } : Jvm.MethodName) prog_33_method_89_code (2 : Nat) (Option.none : Option Jvm.ClassFile.FieldType))) ∈ wA := wA_of (List.mem_of_getElem? (i := 1437) (by decide +kernel)) (by decide +kernel)
theorem w_1440 : ((Jvm.Cond.code ({ cls := "java/lang/AbstractStringBuilder", name := "setLength", desc := "(I)V" } : Jvm.MethodName) prog_16_method_13_code (2 : Nat) (Option.none : Option Jvm.ClassFile.FieldType))) ∈ wA := wA_of (List.mem_of_getElem? (i := 1440) (by decide +kernel)) (by decide +kernel)
theorem w_1610 : ((Jvm.Cond.code ({ cls := "java/lang/StringBuilder", name := "length", desc := "()I" } : Jvm.MethodName) prog_33_method_93_code (1 : Nat) (Option.some Jvm.ClassFile.FieldType.int))) ∈ wA := wA_of (List.mem_of_getElem? (i := 1610) (by decide +kernel)) (by decide +kernel)
theorem w_1612 : ((Jvm.Cond.code ({ cls := "java/lang/AbstractStringBuilder", name := "length", desc := "()I" } : Jvm.MethodName) prog_16_method_6_code (1 : Nat) (Option.some Jvm.ClassFile.FieldType.int))) ∈ wA := wA_of (List.mem_of_getElem? (i := 1612) (by decide +kernel)) (by decide +kernel)
theorem w_1523 : ((Jvm.Cond.code ({ cls := "java/lang/String", name := "length", desc := "()I" } : Jvm.MethodName) prog_32_method_54_code (1 : Nat) (Option.some Jvm.ClassFile.FieldType.int))) ∈ wA := wA_of (List.mem_of_getElem? (i := 1523) (by decide +kernel)) (by decide +kernel)
theorem w_1774 : ((Jvm.Cond.code ({ cls := "java/lang/String", name := "charAt", desc := "(I)C" } : Jvm.MethodName) prog_32_method_56_code (2 : Nat) (Option.some Jvm.ClassFile.FieldType.char))) ∈ wA := wA_of (List.mem_of_getElem? (i := 1774) (by decide +kernel)) (by decide +kernel)
theorem w_1778 : ((Jvm.Cond.code ({ cls := "java/lang/String", name := "isLatin1", desc := "()Z" } : Jvm.MethodName) prog_32_method_154_code (1 : Nat) (Option.some Jvm.ClassFile.FieldType.boolean))) ∈ wA := wA_of (List.mem_of_getElem? (i := 1778) (by decide +kernel)) (by decide +kernel)
theorem w_1527 : ((Jvm.Cond.code ({ cls := "java/lang/String", name := "coder", desc := "()B" } : Jvm.MethodName) prog_32_method_152_code (1 : Nat) (Option.some Jvm.ClassFile.FieldType.byte))) ∈ wA := wA_of (List.mem_of_getElem? (i := 1527) (by decide +kernel)) (by decide +kernel)
theorem w_1781 : ((Jvm.Cond.code ({ cls := "java/lang/StringLatin1", name := "charAt", desc := "([BI)C" } : Jvm.MethodName) prog_35_method_2_code (2 : Nat) (Option.some Jvm.ClassFile.FieldType.char))) ∈ wA := wA_of (List.mem_of_getElem? (i := 1781) (by decide +kernel)) (by decide +kernel)
theorem w_1838 : ((Jvm.Cond.code ({ cls := "java/lang/Enum", name := "ordinal", desc := "()I" } : Jvm.MethodName) prog_23_method_2_code (1 : Nat) (Option.some Jvm.ClassFile.FieldType.int))) ∈ wA := wA_of (List.mem_of_getElem? (i := 1838) (by decide +kernel)) (by decide +kernel)
theorem w_397 : ((Jvm.Cond.code ({ cls := "java/lang/StringBuilder", name := "<init>", desc := "()V" } : Jvm.MethodName) prog_33_method_1_code (1 : Nat) (Option.none : Option Jvm.ClassFile.FieldType))) ∈ wA := wA_of (List.mem_of_getElem? (i := 397) (by decide +kernel)) (by decide +kernel)
theorem w_400 : ((Jvm.Cond.code ({ cls := "java/lang/AbstractStringBuilder", name := "<init>", desc := "(I)V" } : Jvm.MethodName) prog_16_method_2_code (2 : Nat) (Option.none : Option Jvm.ClassFile.FieldType))) ∈ wA := wA_of (List.mem_of_getElem? (i := 400) (by decide +kernel)) (by decide +kernel)
theorem w_1689 : ((Jvm.Cond.methodLink "java/lang/StringBuilder" (50 : Nat) ({ cls := "java/lang/AbstractStringBuilder", name := "append", desc := "(C)Ljava/lang/AbstractStringBuilder;" } : Jvm.MethodName))) ∈ wA := wA_of (List.mem_of_getElem? (i := 1689) (by decide +kernel)) (by decide +kernel)
theorem w_2548 : ((Jvm.Cond.sameMethod "java/lang/AbstractStringBuilder" "java/lang/AbstractStringBuilder" "append" "(C)Ljava/lang/AbstractStringBuilder;")) ∈ wA := wA_of (List.mem_of_getElem? (i := 2548) (by decide +kernel)) (by decide +kernel)
theorem w_424 : ((Jvm.Cond.superclass "java/lang/StringBuilder" "java/lang/AbstractStringBuilder")) ∈ wA := wA_of (List.mem_of_getElem? (i := 424) (by decide +kernel)) (by decide +kernel)
theorem w_1690 : ((Jvm.Cond.instanceMethod ({ cls := "java/lang/AbstractStringBuilder", name := "append", desc := "(C)Ljava/lang/AbstractStringBuilder;" } : Jvm.MethodName))) ∈ wA := wA_of (List.mem_of_getElem? (i := 1690) (by decide +kernel)) (by decide +kernel)
theorem w_107 : ((Jvm.Cond.initialized "java/lang/AbstractStringBuilder")) ∈ wA := wA_of (List.mem_of_getElem? (i := 107) (by decide +kernel)) (by decide +kernel)
theorem w_415 : ((Jvm.Cond.fieldLink "java/lang/AbstractStringBuilder" (79 : Nat) "java/lang/AbstractStringBuilder" "count" "I")) ∈ wA := wA_of (List.mem_of_getElem? (i := 415) (by decide +kernel)) (by decide +kernel)
theorem w_1460 : ((Jvm.Cond.methodLink "java/lang/AbstractStringBuilder" (100 : Nat) ({ cls := "java/lang/AbstractStringBuilder", name := "ensureCapacityInternal", desc := "(I)V" } : Jvm.MethodName))) ∈ wA := wA_of (List.mem_of_getElem? (i := 1460) (by decide +kernel)) (by decide +kernel)
theorem w_2542 : ((Jvm.Cond.sameMethod "java/lang/AbstractStringBuilder" "java/lang/AbstractStringBuilder" "ensureCapacityInternal" "(I)V")) ∈ wA := wA_of (List.mem_of_getElem? (i := 2542) (by decide +kernel)) (by decide +kernel)
theorem w_1462 : ((Jvm.Cond.instanceMethod ({ cls := "java/lang/AbstractStringBuilder", name := "ensureCapacityInternal", desc := "(I)V" } : Jvm.MethodName))) ∈ wA := wA_of (List.mem_of_getElem? (i := 1462) (by decide +kernel)) (by decide +kernel)
theorem w_1489 : ((Jvm.Cond.methodLink "java/lang/AbstractStringBuilder" (83 : Nat) ({ cls := "java/lang/AbstractStringBuilder", name := "isLatin1", desc := "()Z" } : Jvm.MethodName))) ∈ wA := wA_of (List.mem_of_getElem? (i := 1489) (by decide +kernel)) (by decide +kernel)
theorem w_1492 : ((Jvm.Cond.selects "java/lang/StringBuilder" ({ cls := "java/lang/AbstractStringBuilder", name := "isLatin1", desc := "()Z" } : Jvm.MethodName) ({ cls := "java/lang/AbstractStringBuilder", name := "isLatin1", desc := "()Z" } : Jvm.MethodName))) ∈ wA := wA_of (List.mem_of_getElem? (i := 1492) (by decide +kernel)) (by decide +kernel)
theorem w_1491 : ((Jvm.Cond.sameMethod "java/lang/AbstractStringBuilder" "java/lang/AbstractStringBuilder" "isLatin1" "()Z")) ∈ wA := wA_of (List.mem_of_getElem? (i := 1491) (by decide +kernel)) (by decide +kernel)
theorem w_1490 : ((Jvm.Cond.instanceMethod ({ cls := "java/lang/AbstractStringBuilder", name := "isLatin1", desc := "()Z" } : Jvm.MethodName))) ∈ wA := wA_of (List.mem_of_getElem? (i := 1490) (by decide +kernel)) (by decide +kernel)
theorem w_1692 : ((Jvm.Cond.methodLink "java/lang/AbstractStringBuilder" (191 : Nat) ({ cls := "java/lang/StringLatin1", name := "canEncode", desc := "(C)Z" } : Jvm.MethodName))) ∈ wA := wA_of (List.mem_of_getElem? (i := 1692) (by decide +kernel)) (by decide +kernel)
theorem w_1693 : ((Jvm.Cond.static ({ cls := "java/lang/StringLatin1", name := "canEncode", desc := "(C)Z" } : Jvm.MethodName))) ∈ wA := wA_of (List.mem_of_getElem? (i := 1693) (by decide +kernel)) (by decide +kernel)
theorem w_128 : ((Jvm.Cond.initialized "java/lang/StringLatin1")) ∈ wA := wA_of (List.mem_of_getElem? (i := 128) (by decide +kernel)) (by decide +kernel)
theorem w_411 : ((Jvm.Cond.fieldLink "java/lang/AbstractStringBuilder" (15 : Nat) "java/lang/AbstractStringBuilder" "value" "[B")) ∈ wA := wA_of (List.mem_of_getElem? (i := 411) (by decide +kernel)) (by decide +kernel)
theorem w_1538 : ((Jvm.Cond.methodLink "java/lang/AbstractStringBuilder" (195 : Nat) ({ cls := "java/lang/AbstractStringBuilder", name := "inflate", desc := "()V" } : Jvm.MethodName))) ∈ wA := wA_of (List.mem_of_getElem? (i := 1538) (by decide +kernel)) (by decide +kernel)
theorem w_1695 : ((Jvm.Cond.methodLink "java/lang/AbstractStringBuilder" (197 : Nat) ({ cls := "java/lang/StringUTF16", name := "putCharSB", desc := "([BII)V" } : Jvm.MethodName))) ∈ wA := wA_of (List.mem_of_getElem? (i := 1695) (by decide +kernel)) (by decide +kernel)
theorem w_412 : ((Jvm.Cond.fieldLink "java/lang/AbstractStringBuilder" (22 : Nat) "java/lang/AbstractStringBuilder" "coder" "B")) ∈ wA := wA_of (List.mem_of_getElem? (i := 412) (by decide +kernel)) (by decide +kernel)
theorem w_1464 : ((Jvm.Cond.methodLink "java/lang/AbstractStringBuilder" (104 : Nat) ({ cls := "java/lang/AbstractStringBuilder", name := "newCapacity", desc := "(I)I" } : Jvm.MethodName))) ∈ wA := wA_of (List.mem_of_getElem? (i := 1464) (by decide +kernel)) (by decide +kernel)
theorem w_2543 : ((Jvm.Cond.sameMethod "java/lang/AbstractStringBuilder" "java/lang/AbstractStringBuilder" "newCapacity" "(I)I")) ∈ wA := wA_of (List.mem_of_getElem? (i := 2543) (by decide +kernel)) (by decide +kernel)
theorem w_1466 : ((Jvm.Cond.instanceMethod ({ cls := "java/lang/AbstractStringBuilder", name := "newCapacity", desc := "(I)I" } : Jvm.MethodName))) ∈ wA := wA_of (List.mem_of_getElem? (i := 1466) (by decide +kernel)) (by decide +kernel)
theorem w_1477 : ((Jvm.Cond.methodLink "java/lang/AbstractStringBuilder" (108 : Nat) ({ cls := "java/util/Arrays", name := "copyOf", desc := "([BI)[B" } : Jvm.MethodName))) ∈ wA := wA_of (List.mem_of_getElem? (i := 1477) (by decide +kernel)) (by decide +kernel)
theorem w_1478 : ((Jvm.Cond.static ({ cls := "java/util/Arrays", name := "copyOf", desc := "([BI)[B" } : Jvm.MethodName))) ∈ wA := wA_of (List.mem_of_getElem? (i := 1478) (by decide +kernel)) (by decide +kernel)
theorem w_1468 : ((Jvm.Cond.methodLink "java/lang/AbstractStringBuilder" (114 : Nat) ({ cls := "jdk/internal/util/ArraysSupport", name := "newLength", desc := "(III)I" } : Jvm.MethodName))) ∈ wA := wA_of (List.mem_of_getElem? (i := 1468) (by decide +kernel)) (by decide +kernel)
theorem w_1469 : ((Jvm.Cond.static ({ cls := "jdk/internal/util/ArraysSupport", name := "newLength", desc := "(III)I" } : Jvm.MethodName))) ∈ wA := wA_of (List.mem_of_getElem? (i := 1469) (by decide +kernel)) (by decide +kernel)
theorem w_126 : ((Jvm.Cond.initialized "jdk/internal/util/ArraysSupport")) ∈ wA := wA_of (List.mem_of_getElem? (i := 126) (by decide +kernel)) (by decide +kernel)
theorem w_1476 : ((Jvm.Cond.constant "java/lang/AbstractStringBuilder" (39 : Nat) (2147483647 : Int32))) ∈ wA := wA_of (List.mem_of_getElem? (i := 1476) (by decide +kernel)) (by decide +kernel)
theorem w_402 : ((Jvm.Cond.fieldLink "java/lang/AbstractStringBuilder" (18 : Nat) "java/lang/String" "COMPACT_STRINGS" "Z")) ∈ wA := wA_of (List.mem_of_getElem? (i := 402) (by decide +kernel)) (by decide +kernel)
theorem w_1471 : ((Jvm.Cond.methodLink "jdk/internal/util/ArraysSupport" (194 : Nat) ({ cls := "java/lang/Math", name := "max", desc := "(II)I" } : Jvm.MethodName))) ∈ wA := wA_of (List.mem_of_getElem? (i := 1471) (by decide +kernel)) (by decide +kernel)
theorem w_1472 : ((Jvm.Cond.constant "jdk/internal/util/ArraysSupport" (200 : Nat) (2147483639 : Int32))) ∈ wA := wA_of (List.mem_of_getElem? (i := 1472) (by decide +kernel)) (by decide +kernel)
theorem w_1473 : ((Jvm.Cond.methodLink "jdk/internal/util/ArraysSupport" (201 : Nat) ({ cls := "jdk/internal/util/ArraysSupport", name := "hugeLength", desc := "(II)I" } : Jvm.MethodName))) ∈ wA := wA_of (List.mem_of_getElem? (i := 1473) (by decide +kernel)) (by decide +kernel)
theorem w_1480 : ((Jvm.Cond.methodLink "java/util/Arrays" (310 : Nat) ({ cls := "[B", name := "clone", desc := "()Ljava/lang/Object;" } : Jvm.MethodName))) ∈ wA := wA_of (List.mem_of_getElem? (i := 1480) (by decide +kernel)) (by decide +kernel)
theorem w_1487 : ((Jvm.Cond.methodLink "java/util/Arrays" (304 : Nat) ({ cls := "java/lang/Math", name := "min", desc := "(II)I" } : Jvm.MethodName))) ∈ wA := wA_of (List.mem_of_getElem? (i := 1487) (by decide +kernel)) (by decide +kernel)
theorem w_1488 : ((Jvm.Cond.methodLink "java/util/Arrays" (150 : Nat) ({ cls := "java/lang/System", name := "arraycopy", desc := "(Ljava/lang/Object;ILjava/lang/Object;II)V" } : Jvm.MethodName))) ∈ wA := wA_of (List.mem_of_getElem? (i := 1488) (by decide +kernel)) (by decide +kernel)
theorem w_1567 : ((Jvm.Cond.methodLink "java/lang/StringBuilder" (53 : Nat) ({ cls := "java/lang/AbstractStringBuilder", name := "append", desc := "(I)Ljava/lang/AbstractStringBuilder;" } : Jvm.MethodName))) ∈ wA := wA_of (List.mem_of_getElem? (i := 1567) (by decide +kernel)) (by decide +kernel)
theorem w_2547 : ((Jvm.Cond.sameMethod "java/lang/AbstractStringBuilder" "java/lang/AbstractStringBuilder" "append" "(I)Ljava/lang/AbstractStringBuilder;")) ∈ wA := wA_of (List.mem_of_getElem? (i := 2547) (by decide +kernel)) (by decide +kernel)
theorem w_1568 : ((Jvm.Cond.instanceMethod ({ cls := "java/lang/AbstractStringBuilder", name := "append", desc := "(I)Ljava/lang/AbstractStringBuilder;" } : Jvm.MethodName))) ∈ wA := wA_of (List.mem_of_getElem? (i := 1568) (by decide +kernel)) (by decide +kernel)
theorem w_1570 : ((Jvm.Cond.methodLink "java/lang/AbstractStringBuilder" (245 : Nat) ({ cls := "java/lang/Integer", name := "stringSize", desc := "(I)I" } : Jvm.MethodName))) ∈ wA := wA_of (List.mem_of_getElem? (i := 1570) (by decide +kernel)) (by decide +kernel)
theorem w_1571 : ((Jvm.Cond.static ({ cls := "java/lang/Integer", name := "stringSize", desc := "(I)I" } : Jvm.MethodName))) ∈ wA := wA_of (List.mem_of_getElem? (i := 1571) (by decide +kernel)) (by decide +kernel)
theorem w_130 : ((Jvm.Cond.initialized "java/lang/Integer")) ∈ wA := wA_of (List.mem_of_getElem? (i := 130) (by decide +kernel)) (by decide +kernel)
theorem w_1573 : ((Jvm.Cond.methodLink "java/lang/AbstractStringBuilder" (248 : Nat) ({ cls := "java/lang/Integer", name := "getChars", desc := "(II[B)I" } : Jvm.MethodName))) ∈ wA := wA_of (List.mem_of_getElem? (i := 1573) (by decide +kernel)) (by decide +kernel)
theorem w_1574 : ((Jvm.Cond.static ({ cls := "java/lang/Integer", name := "getChars", desc := "(II[B)I" } : Jvm.MethodName))) ∈ wA := wA_of (List.mem_of_getElem? (i := 1574) (by decide +kernel)) (by decide +kernel)
theorem w_1580 : ((Jvm.Cond.methodLink "java/lang/AbstractStringBuilder" (251 : Nat) ({ cls := "java/lang/StringUTF16", name := "getChars", desc := "(III[B)I" } : Jvm.MethodName))) ∈ wA := wA_of (List.mem_of_getElem? (i := 1580) (by decide +kernel)) (by decide +kernel)
theorem w_1576 : ((Jvm.Cond.fieldLink "java/lang/Integer" (83 : Nat) "java/lang/Integer" "DigitOnes" "[B")) ∈ wA := wA_of (List.mem_of_getElem? (i := 1576) (by decide +kernel)) (by decide +kernel)
theorem w_1578 : ((Jvm.Cond.fieldLink "java/lang/Integer" (87 : Nat) "java/lang/Integer" "DigitTens" "[B")) ∈ wA := wA_of (List.mem_of_getElem? (i := 1578) (by decide +kernel)) (by decide +kernel)
theorem w_1727 : ((Jvm.Cond.methodLink "java/lang/StringBuilder" (329 : Nat) ({ cls := "java/lang/AbstractStringBuilder", name := "charAt", desc := "(I)C" } : Jvm.MethodName))) ∈ wA := wA_of (List.mem_of_getElem? (i := 1727) (by decide +kernel)) (by decide +kernel)
theorem w_2550 : ((Jvm.Cond.sameMethod "java/lang/AbstractStringBuilder" "java/lang/AbstractStringBuilder" "charAt" "(I)C")) ∈ wA := wA_of (List.mem_of_getElem? (i := 2550) (by decide +kernel)) (by decide +kernel)
theorem w_1728 : ((Jvm.Cond.instanceMethod ({ cls := "java/lang/AbstractStringBuilder", name := "charAt", desc := "(I)C" } : Jvm.MethodName))) ∈ wA := wA_of (List.mem_of_getElem? (i := 1728) (by decide +kernel)) (by decide +kernel)
theorem w_1730 : ((Jvm.Cond.methodLink "java/lang/AbstractStringBuilder" (138 : Nat) ({ cls := "java/lang/Math", name := "min", desc := "(II)I" } : Jvm.MethodName))) ∈ wA := wA_of (List.mem_of_getElem? (i := 1730) (by decide +kernel)) (by decide +kernel)
theorem w_1731 : ((Jvm.Cond.methodLink "java/lang/AbstractStringBuilder" (144 : Nat) ({ cls := "java/lang/String", name := "checkIndex", desc := "(II)V" } : Jvm.MethodName))) ∈ wA := wA_of (List.mem_of_getElem? (i := 1731) (by decide +kernel)) (by decide +kernel)
theorem w_1702 : ((Jvm.Cond.static ({ cls := "java/lang/String", name := "checkIndex", desc := "(II)V" } : Jvm.MethodName))) ∈ wA := wA_of (List.mem_of_getElem? (i := 1702) (by decide +kernel)) (by decide +kernel)
theorem w_109 : ((Jvm.Cond.initialized "java/lang/String")) ∈ wA := wA_of (List.mem_of_getElem? (i := 109) (by decide +kernel)) (by decide +kernel)
theorem w_1732 : ((Jvm.Cond.methodLink "java/lang/AbstractStringBuilder" (148 : Nat) ({ cls := "java/lang/StringUTF16", name := "getChar", desc := "([BI)C" } : Jvm.MethodName))) ∈ wA := wA_of (List.mem_of_getElem? (i := 1732) (by decide +kernel)) (by decide +kernel)
theorem w_1506 : ((Jvm.Cond.fieldLink "java/lang/String" (1053 : Nat) "jdk/internal/util/Preconditions" "SIOOBE_FORMATTER" "Ljava/util/function/BiFunction;")) ∈ wA := wA_of (List.mem_of_getElem? (i := 1506) (by decide +kernel)) (by decide +kernel)
theorem w_1704 : ((Jvm.Cond.methodLink "java/lang/String" (1059 : Nat) ({ cls := "jdk/internal/util/Preconditions", name := "checkIndex", desc := "(IILjava/util/function/BiFunction;)I" } : Jvm.MethodName))) ∈ wA := wA_of (List.mem_of_getElem? (i := 1704) (by decide +kernel)) (by decide +kernel)
theorem w_1705 : ((Jvm.Cond.static ({ cls := "jdk/internal/util/Preconditions", name := "checkIndex", desc := "(IILjava/util/function/BiFunction;)I" } : Jvm.MethodName))) ∈ wA := wA_of (List.mem_of_getElem? (i := 1705) (by decide +kernel)) (by decide +kernel)
theorem w_127 : ((Jvm.Cond.initialized "jdk/internal/util/Preconditions")) ∈ wA := wA_of (List.mem_of_getElem? (i := 127) (by decide +kernel)) (by decide +kernel)
theorem w_1438 : ((Jvm.Cond.methodLink "java/lang/StringBuilder" (333 : Nat) ({ cls := "java/lang/AbstractStringBuilder", name := "setLength", desc := "(I)V" } : Jvm.MethodName))) ∈ wA := wA_of (List.mem_of_getElem? (i := 1438) (by decide +kernel)) (by decide +kernel)
theorem w_2539 : ((Jvm.Cond.sameMethod "java/lang/AbstractStringBuilder" "java/lang/AbstractStringBuilder" "setLength" "(I)V")) ∈ wA := wA_of (List.mem_of_getElem? (i := 2539) (by decide +kernel)) (by decide +kernel)
theorem w_1439 : ((Jvm.Cond.instanceMethod ({ cls := "java/lang/AbstractStringBuilder", name := "setLength", desc := "(I)V" } : Jvm.MethodName))) ∈ wA := wA_of (List.mem_of_getElem? (i := 1439) (by decide +kernel)) (by decide +kernel)
theorem w_1443 : ((Jvm.Cond.methodLink "java/lang/AbstractStringBuilder" (131 : Nat) ({ cls := "java/lang/StringIndexOutOfBoundsException", name := "<init>", desc := "(I)V" } : Jvm.MethodName))) ∈ wA := wA_of (List.mem_of_getElem? (i := 1443) (by decide +kernel)) (by decide +kernel)
theorem w_1659 : ((Jvm.Cond.methodLink "java/lang/AbstractStringBuilder" (133 : Nat) ({ cls := "java/lang/StringLatin1", name := "fillNull", desc := "([BII)V" } : Jvm.MethodName))) ∈ wA := wA_of (List.mem_of_getElem? (i := 1659) (by decide +kernel)) (by decide +kernel)
theorem w_1681 : ((Jvm.Cond.methodLink "java/lang/AbstractStringBuilder" (137 : Nat) ({ cls := "java/lang/StringUTF16", name := "fillNull", desc := "([BII)V" } : Jvm.MethodName))) ∈ wA := wA_of (List.mem_of_getElem? (i := 1681) (by decide +kernel)) (by decide +kernel)
theorem w_413 : ((Jvm.Cond.fieldLink "java/lang/AbstractStringBuilder" (73 : Nat) "java/lang/AbstractStringBuilder" "maybeLatin1" "Z")) ∈ wA := wA_of (List.mem_of_getElem? (i := 413) (by decide +kernel)) (by decide +kernel)
theorem w_1611 : ((Jvm.Cond.methodLink "java/lang/StringBuilder" (343 : Nat) ({ cls := "java/lang/AbstractStringBuilder", name := "length", desc := "()I" } : Jvm.MethodName))) ∈ wA := wA_of (List.mem_of_getElem? (i := 1611) (by decide +kernel)) (by decide +kernel)
theorem w_1607 : ((Jvm.Cond.sameMethod "java/lang/AbstractStringBuilder" "java/lang/AbstractStringBuilder" "length" "()I")) ∈ wA := wA_of (List.mem_of_getElem? (i := 1607) (by decide +kernel)) (by decide +kernel)
theorem w_1606 : ((Jvm.Cond.instanceMethod ({ cls := "java/lang/AbstractStringBuilder", name := "length", desc := "()I" } : Jvm.MethodName))) ∈ wA := wA_of (List.mem_of_getElem? (i := 1606) (by decide +kernel)) (by decide +kernel)
theorem w_1644 : ((Jvm.Cond.fieldLink "java/lang/String" (9 : Nat) "java/lang/String" "value" "[B")) ∈ wA := wA_of (List.mem_of_getElem? (i := 1644) (by decide +kernel)) (by decide +kernel)
theorem w_1524 : ((Jvm.Cond.methodLink "java/lang/String" (335 : Nat) ({ cls := "java/lang/String", name := "coder", desc := "()B" } : Jvm.MethodName))) ∈ wA := wA_of (List.mem_of_getElem? (i := 1524) (by decide +kernel)) (by decide +kernel)
theorem w_1525 : ((Jvm.Cond.instanceMethod ({ cls := "java/lang/String", name := "coder", desc := "()B" } : Jvm.MethodName))) ∈ wA := wA_of (List.mem_of_getElem? (i := 1525) (by decide +kernel)) (by decide +kernel)
theorem w_1526 : ((Jvm.Cond.selects "java/lang/String" ({ cls := "java/lang/String", name := "coder", desc := "()B" } : Jvm.MethodName) ({ cls := "java/lang/String", name := "coder", desc := "()B" } : Jvm.MethodName))) ∈ wA := wA_of (List.mem_of_getElem? (i := 1526) (by decide +kernel)) (by decide +kernel)
theorem w_1775 : ((Jvm.Cond.methodLink "java/lang/String" (492 : Nat) ({ cls := "java/lang/String", name := "isLatin1", desc := "()Z" } : Jvm.MethodName))) ∈ wA := wA_of (List.mem_of_getElem? (i := 1775) (by decide +kernel)) (by decide +kernel)
theorem w_1776 : ((Jvm.Cond.instanceMethod ({ cls := "java/lang/String", name := "isLatin1", desc := "()Z" } : Jvm.MethodName))) ∈ wA := wA_of (List.mem_of_getElem? (i := 1776) (by decide +kernel)) (by decide +kernel)
theorem w_1777 : ((Jvm.Cond.selects "java/lang/String" ({ cls := "java/lang/String", name := "isLatin1", desc := "()Z" } : Jvm.MethodName) ({ cls := "java/lang/String", name := "isLatin1", desc := "()Z" } : Jvm.MethodName))) ∈ wA := wA_of (List.mem_of_getElem? (i := 1777) (by decide +kernel)) (by decide +kernel)
theorem w_1779 : ((Jvm.Cond.methodLink "java/lang/String" (495 : Nat) ({ cls := "java/lang/StringLatin1", name := "charAt", desc := "([BI)C" } : Jvm.MethodName))) ∈ wA := wA_of (List.mem_of_getElem? (i := 1779) (by decide +kernel)) (by decide +kernel)
theorem w_1780 : ((Jvm.Cond.static ({ cls := "java/lang/StringLatin1", name := "charAt", desc := "([BI)C" } : Jvm.MethodName))) ∈ wA := wA_of (List.mem_of_getElem? (i := 1780) (by decide +kernel)) (by decide +kernel)
theorem w_1783 : ((Jvm.Cond.methodLink "java/lang/String" (498 : Nat) ({ cls := "java/lang/StringUTF16", name := "charAt", desc := "([BI)C" } : Jvm.MethodName))) ∈ wA := wA_of (List.mem_of_getElem? (i := 1783) (by decide +kernel)) (by decide +kernel)
theorem w_1528 : ((Jvm.Cond.fieldLink "java/lang/String" (38 : Nat) "java/lang/String" "COMPACT_STRINGS" "Z")) ∈ wA := wA_of (List.mem_of_getElem? (i := 1528) (by decide +kernel)) (by decide +kernel)
theorem w_1645 : ((Jvm.Cond.fieldLink "java/lang/String" (15 : Nat) "java/lang/String" "coder" "B")) ∈ wA := wA_of (List.mem_of_getElem? (i := 1645) (by decide +kernel)) (by decide +kernel)
theorem w_1782 : ((Jvm.Cond.methodLink "java/lang/StringLatin1" (9 : Nat) ({ cls := "java/lang/String", name := "checkIndex", desc := "(II)V" } : Jvm.MethodName))) ∈ wA := wA_of (List.mem_of_getElem? (i := 1782) (by decide +kernel)) (by decide +kernel)
theorem w_2576 : ((Jvm.Cond.fieldLink "java/lang/Enum" (7 : Nat) "java/lang/Enum" "ordinal" "I")) ∈ wA := wA_of (List.mem_of_getElem? (i := 2576) (by decide +kernel)) (by decide +kernel)
theorem w_398 : ((Jvm.Cond.methodLink "java/lang/StringBuilder" (1 : Nat) ({ cls := "java/lang/AbstractStringBuilder", name := "<init>", desc := "(I)V" } : Jvm.MethodName))) ∈ wA := wA_of (List.mem_of_getElem? (i := 398) (by decide +kernel)) (by decide +kernel)
theorem w_401 : ((Jvm.Cond.methodLink "java/lang/AbstractStringBuilder" (3 : Nat) ({ cls := "java/lang/Object", name := "<init>", desc := "()V" } : Jvm.MethodName))) ∈ wA := wA_of (List.mem_of_getElem? (i := 401) (by decide +kernel)) (by decide +kernel)
theorem w_404 : ((Jvm.Cond.methodLink "java/lang/AbstractStringBuilder" (26 : Nat) ({ cls := "java/lang/StringUTF16", name := "newBytesFor", desc := "(I)[B" } : Jvm.MethodName))) ∈ wA := wA_of (List.mem_of_getElem? (i := 404) (by decide +kernel)) (by decide +kernel)
theorem w_425 : ((Jvm.Cond.arrayClass Jvm.ClassFile.FieldType.byte)) ∈ wA := wA_of (List.mem_of_getElem? (i := 425) (by decide +kernel)) (by decide +kernel)
abbrev m_J4_append_cf468 : gMd := (yJ4_append_cf468, cJ4_append_cf468, RJ4, 2, (some (.object "java/lang/StringBuilder")), [], false)
theorem ok_J4_append_cf468 : gOkF m_J4_append_cf468 := ⟨by decide +kernel, rfl, rfl⟩
theorem cw_J4_append_cf468 : gcw m_J4_append_cf468 ∈ wA := w_1688
abbrev m_J5_append_3fe6f : gMd := (yJ5_append_3fe6f, cJ5_append_3fe6f, RJ5, 2, (some (.object "java/lang/AbstractStringBuilder")), [], false)
theorem ok_J5_append_3fe6f : gOkF m_J5_append_3fe6f := ⟨by decide +kernel, rfl, rfl⟩
theorem cw_J5_append_3fe6f : gcw m_J5_append_3fe6f ∈ wA := w_1691
abbrev m_J5_ensureCapacityInternal_d00df : gMd := (yJ5_ensureCapacityInternal_d00df, cJ5_ensureCapacityInternal_d00df, RJ5, 3, none, [], false)
theorem ok_J5_ensureCapacityInternal_d00df : gOkF m_J5_ensureCapacityInternal_d00df := ⟨by decide +kernel, rfl, rfl⟩
theorem cw_J5_ensureCapacityInternal_d00df : gcw m_J5_ensureCapacityInternal_d00df ∈ wA := w_1463
abbrev m_J5_newCapacity_0f7a4 : gMd := (yJ5_newCapacity_0f7a4, cJ5_newCapacity_0f7a4, RJ5, 6, (some .int), [], false)
theorem ok_J5_newCapacity_0f7a4 : gOkF m_J5_newCapacity_0f7a4 := ⟨by decide +kernel, rfl, rfl⟩
theorem cw_J5_newCapacity_0f7a4 : gcw m_J5_newCapacity_0f7a4 ∈ wA := w_1467
abbrev m_J5_isLatin1_aae02 : gMd := (yJ5_isLatin1_aae02, cJ5_isLatin1_aae02, RJ5, 1, (some .boolean), [], false)
theorem ok_J5_isLatin1_aae02 : gOkF m_J5_isLatin1_aae02 := ⟨by decide +kernel, rfl, rfl⟩
theorem cw_J5_isLatin1_aae02 : gcw m_J5_isLatin1_aae02 ∈ wA := w_1493
abbrev m_J1_canEncode_fc78d : gMd := (yJ1_canEncode_fc78d, cJ1_canEncode_fc78d, RJ1, 1, (some .boolean), [], false)
theorem ok_J1_canEncode_fc78d : gOkF m_J1_canEncode_fc78d := ⟨by decide +kernel, rfl, rfl⟩
theorem cw_J1_canEncode_fc78d : gcw m_J1_canEncode_fc78d ∈ wA := w_1694
abbrev m_J8_newLength_cabcc : gMd := (yJ8_newLength_cabcc, cJ8_newLength_cabcc, RJ8, 4, (some .int), [], false)
theorem ok_J8_newLength_cabcc : gOkF m_J8_newLength_cabcc := ⟨by decide +kernel, rfl, rfl⟩
theorem cw_J8_newLength_cabcc : gcw m_J8_newLength_cabcc ∈ wA := w_1470
abbrev m_J7_copyOf_9075b : gMd := (yJ7_copyOf_9075b, cJ7_copyOf_9075b, RJ7, 3, (some (.array .byte)), [], false)
theorem ok_J7_copyOf_9075b : gOkF m_J7_copyOf_9075b := ⟨by decide +kernel, rfl, rfl⟩
theorem cw_J7_copyOf_9075b : gcw m_J7_copyOf_9075b ∈ wA := w_1479
abbrev m_J4_append_bf812 : gMd := (yJ4_append_bf812, cJ4_append_bf812, RJ4, 2, (some (.object "java/lang/StringBuilder")), [], false)
theorem ok_J4_append_bf812 : gOkF m_J4_append_bf812 := ⟨by decide +kernel, rfl, rfl⟩
theorem cw_J4_append_bf812 : gcw m_J4_append_bf812 ∈ wA := w_1566
abbrev m_J5_append_c97b9 : gMd := (yJ5_append_c97b9, cJ5_append_c97b9, RJ5, 4, (some (.object "java/lang/AbstractStringBuilder")), [], false)
theorem ok_J5_append_c97b9 : gOkF m_J5_append_c97b9 := ⟨by decide +kernel, rfl, rfl⟩
theorem cw_J5_append_c97b9 : gcw m_J5_append_c97b9 ∈ wA := w_1569
abbrev m_J6_stringSize_0f7a4 : gMd := (yJ6_stringSize_0f7a4, cJ6_stringSize_0f7a4, RJ6, 4, (some .int), [], false)
theorem ok_J6_stringSize_0f7a4 : gOkF m_J6_stringSize_0f7a4 := ⟨by decide +kernel, rfl, rfl⟩
theorem cw_J6_stringSize_0f7a4 : gcw m_J6_stringSize_0f7a4 ∈ wA := w_1572
abbrev m_J6_getChars_ba4f3 : gMd := (yJ6_getChars_ba4f3, cJ6_getChars_ba4f3, RJ6, 7, (some .int), [], false)
theorem ok_J6_getChars_ba4f3 : gOkF m_J6_getChars_ba4f3 := ⟨by decide +kernel, rfl, rfl⟩
theorem cw_J6_getChars_ba4f3 : gcw m_J6_getChars_ba4f3 ∈ wA := w_1575
abbrev m_J4_charAt_5068e : gMd := (yJ4_charAt_5068e, cJ4_charAt_5068e, RJ4, 2, (some .char), [], false)
theorem ok_J4_charAt_5068e : gOkF m_J4_charAt_5068e := ⟨by decide +kernel, rfl, rfl⟩
theorem cw_J4_charAt_5068e : gcw m_J4_charAt_5068e ∈ wA := w_1726
abbrev m_J5_charAt_5068e : gMd := (yJ5_charAt_5068e, cJ5_charAt_5068e, RJ5, 5, (some .char), [], false)
theorem ok_J5_charAt_5068e : gOkF m_J5_charAt_5068e := ⟨by decide +kernel, rfl, rfl⟩
theorem cw_J5_charAt_5068e : gcw m_J5_charAt_5068e ∈ wA := w_1729
abbrev m_J0_checkIndex_df160 : gMd := (yJ0_checkIndex_df160, cJ0_checkIndex_df160, RJ0, 2, none, [], false)
theorem ok_J0_checkIndex_df160 : gOkF m_J0_checkIndex_df160 := ⟨by decide +kernel, rfl, rfl⟩
theorem cw_J0_checkIndex_df160 : gcw m_J0_checkIndex_df160 ∈ wA := w_1703
abbrev m_J3_checkIndex_8e157 : gMd := (yJ3_checkIndex_8e157, cJ3_checkIndex_8e157, RJ3, 3, (some .int), [], false)
theorem ok_J3_checkIndex_8e157 : gOkF m_J3_checkIndex_8e157 := ⟨by decide +kernel, rfl, rfl⟩
theorem cw_J3_checkIndex_8e157 : gcw m_J3_checkIndex_8e157 ∈ wA := w_1706
abbrev m_J4_setLength_d00df : gMd := (yJ4_setLength_d00df, cJ4_setLength_d00df, RJ4, 2, none, [], false)
theorem ok_J4_setLength_d00df : gOkF m_J4_setLength_d00df := ⟨by decide +kernel, rfl, rfl⟩
theorem cw_J4_setLength_d00df : gcw m_J4_setLength_d00df ∈ wA := w_1437
abbrev m_J5_setLength_d00df : gMd := (yJ5_setLength_d00df, cJ5_setLength_d00df, RJ5, 2, none, [], false)
theorem ok_J5_setLength_d00df : gOkF m_J5_setLength_d00df := ⟨by decide +kernel, rfl, rfl⟩
theorem cw_J5_setLength_d00df : gcw m_J5_setLength_d00df ∈ wA := w_1440
abbrev m_J4_length_8abf5 : gMd := (yJ4_length_8abf5, cJ4_length_8abf5, RJ4, 1, (some .int), [], false)
theorem ok_J4_length_8abf5 : gOkF m_J4_length_8abf5 := ⟨by decide +kernel, rfl, rfl⟩
theorem cw_J4_length_8abf5 : gcw m_J4_length_8abf5 ∈ wA := w_1610
abbrev m_J5_length_8abf5 : gMd := (yJ5_length_8abf5, cJ5_length_8abf5, RJ5, 1, (some .int), [], false)
theorem ok_J5_length_8abf5 : gOkF m_J5_length_8abf5 := ⟨by decide +kernel, rfl, rfl⟩
theorem cw_J5_length_8abf5 : gcw m_J5_length_8abf5 ∈ wA := w_1612
abbrev m_J0_length_8abf5 : gMd := (yJ0_length_8abf5, cJ0_length_8abf5, RJ0, 1, (some .int), [], false)
theorem ok_J0_length_8abf5 : gOkF m_J0_length_8abf5 := ⟨by decide +kernel, rfl, rfl⟩
theorem cw_J0_length_8abf5 : gcw m_J0_length_8abf5 ∈ wA := w_1523
abbrev m_J0_charAt_5068e : gMd := (yJ0_charAt_5068e, cJ0_charAt_5068e, RJ0, 2, (some .char), [], false)
theorem ok_J0_charAt_5068e : gOkF m_J0_charAt_5068e := ⟨by decide +kernel, rfl, rfl⟩
theorem cw_J0_charAt_5068e : gcw m_J0_charAt_5068e ∈ wA := w_1774
abbrev m_J0_isLatin1_aae02 : gMd := (yJ0_isLatin1_aae02, cJ0_isLatin1_aae02, RJ0, 1, (some .boolean), [], false)
theorem ok_J0_isLatin1_aae02 : gOkF m_J0_isLatin1_aae02 := ⟨by decide +kernel, rfl, rfl⟩
theorem cw_J0_isLatin1_aae02 : gcw m_J0_isLatin1_aae02 ∈ wA := w_1778
abbrev m_J0_coder_7d493 : gMd := (yJ0_coder_7d493, cJ0_coder_7d493, RJ0, 1, (some .byte), [], false)
theorem ok_J0_coder_7d493 : gOkF m_J0_coder_7d493 := ⟨by decide +kernel, rfl, rfl⟩
theorem cw_J0_coder_7d493 : gcw m_J0_coder_7d493 ∈ wA := w_1527
abbrev m_J1_charAt_3b067 : gMd := (yJ1_charAt_3b067, cJ1_charAt_3b067, RJ1, 2, (some .char), [], false)
theorem ok_J1_charAt_3b067 : gOkF m_J1_charAt_3b067 := ⟨by decide +kernel, rfl, rfl⟩
theorem cw_J1_charAt_3b067 : gcw m_J1_charAt_3b067 ∈ wA := w_1781
abbrev m_Jx29ce0_ordinal_8abf5 : gMd := (yJx29ce0_ordinal_8abf5, cJx29ce0_ordinal_8abf5, RJx29ce0, 1, (some .int), [], false)
theorem ok_Jx29ce0_ordinal_8abf5 : gOkF m_Jx29ce0_ordinal_8abf5 := ⟨by decide +kernel, rfl, rfl⟩
theorem cw_Jx29ce0_ordinal_8abf5 : gcw m_Jx29ce0_ordinal_8abf5 ∈ wA := w_1838
abbrev m_J4_init_da8c8 : gMd := (yJ4_init_da8c8, cJ4_init_da8c8, RJ4, 1, none, [], false)
theorem ok_J4_init_da8c8 : gOkF m_J4_init_da8c8 := ⟨by decide +kernel, rfl, rfl⟩
theorem cw_J4_init_da8c8 : gcw m_J4_init_da8c8 ∈ wA := w_397
abbrev m_J5_init_d00df : gMd := (yJ5_init_d00df, cJ5_init_d00df, RJ5, 2, none, [], false)
theorem ok_J5_init_d00df : gOkF m_J5_init_d00df := ⟨by decide +kernel, rfl, rfl⟩
theorem cw_J5_init_d00df : gcw m_J5_init_d00df ∈ wA := w_400
theorem uw_J4 : ∀ w ∈ u_ws RJ4 TJ4 4, w ∈ wA := fun w h => wA_of ((by decide +kernel : ∀ w ∈ u_ws RJ4 TJ4 4, w ∈ lw_tbl) w h) ((by decide +kernel : ∀ w ∈ u_ws RJ4 TJ4 4, goodWord w = true) w h)
theorem s_J4_50 : gSX RJ4 50 m_J5_append_3fe6f 1 := ⟨rfl, (List.forall_mem_cons.mpr ⟨w_1689, (List.forall_mem_cons.mpr ⟨w_2548, (List.forall_mem_cons.mpr ⟨w_424, (List.forall_mem_cons.mpr ⟨w_1690, (List.forall_mem_cons.mpr ⟨w_107, (fun _ h => absurd h List.not_mem_nil)⟩)⟩)⟩)⟩)⟩), cw_J5_append_3fe6f, ⟨by decide, by decide +kernel⟩, by decide⟩
theorem f_J5_79 : gFl RJ5 79 10 3 := ⟨RJ4, TJ4, 4, "java/lang/AbstractStringBuilder", rfl, by decide, rfl, uw_J4, w_415, Or.inl rfl⟩
theorem s_J5_100 : gSU RJ5 100 10 m_J5_ensureCapacityInternal_d00df 1 := ⟨RJ4, TJ4, 4, yJ5_ensureCapacityInternal_d00df, rfl, rfl, (List.forall_mem_cons.mpr ⟨w_1460, (List.forall_mem_cons.mpr ⟨w_2542, (List.forall_mem_cons.mpr ⟨gx_e, (List.forall_mem_cons.mpr ⟨w_1462, (List.forall_mem_cons.mpr ⟨w_107, (fun _ h => absurd h List.not_mem_nil)⟩)⟩)⟩)⟩)⟩), cw_J5_ensureCapacityInternal_d00df, rfl, ⟨by decide, by decide, by decide +kernel⟩, by decide⟩
theorem s_J5_83 : gSU RJ5 83 10 m_J5_isLatin1_aae02 0 := ⟨RJ4, TJ4, 4, yJ5_isLatin1_aae02, rfl, rfl, (List.forall_mem_cons.mpr ⟨w_1489, (List.forall_mem_cons.mpr ⟨w_1491, (List.forall_mem_cons.mpr ⟨w_1492, (List.forall_mem_cons.mpr ⟨w_1490, (List.forall_mem_cons.mpr ⟨w_107, (fun _ h => absurd h List.not_mem_nil)⟩)⟩)⟩)⟩)⟩), cw_J5_isLatin1_aae02, rfl, ⟨by decide, by decide, by decide +kernel⟩, by decide⟩
theorem s_J5_191 : gSS RJ5 191 m_J1_canEncode_fc78d 1 := ⟨rfl, (List.forall_mem_cons.mpr ⟨w_1692, (List.forall_mem_cons.mpr ⟨w_1693, (List.forall_mem_cons.mpr ⟨w_128, (fun _ h => absurd h List.not_mem_nil)⟩)⟩)⟩), cw_J1_canEncode_fc78d, ⟨by decide, by decide, by decide +kernel⟩, by decide⟩
theorem f_J5_15 : gFl RJ5 15 10 0 := ⟨RJ4, TJ4, 4, "java/lang/AbstractStringBuilder", rfl, by decide, rfl, uw_J4, w_411, Or.inl rfl⟩
theorem pf_J5_79 : gFq RJ5 79 10 3 .int false := ⟨RJ4, TJ4, 4, "java/lang/AbstractStringBuilder", tyJ4, rfl, by decide, rfl, uw_J4, w_415, Or.inl rfl, tyJ4_ok, nmJ4, rfl, by first | (intro _; rfl) | (intro h; cases h), by decide +kernel⟩
theorem f_J5_22 : gFl RJ5 22 10 1 := ⟨RJ4, TJ4, 4, "java/lang/AbstractStringBuilder", rfl, by decide, rfl, uw_J4, w_412, Or.inl rfl⟩
theorem s_J5_104 : gSU RJ5 104 10 m_J5_newCapacity_0f7a4 1 := ⟨RJ4, TJ4, 4, yJ5_newCapacity_0f7a4, rfl, rfl, (List.forall_mem_cons.mpr ⟨w_1464, (List.forall_mem_cons.mpr ⟨w_2543, (List.forall_mem_cons.mpr ⟨gx_n, (List.forall_mem_cons.mpr ⟨w_1466, (List.forall_mem_cons.mpr ⟨w_107, (fun _ h => absurd h List.not_mem_nil)⟩)⟩)⟩)⟩)⟩), cw_J5_newCapacity_0f7a4, rfl, ⟨by decide, by decide, by decide +kernel⟩, by decide⟩
theorem s_J5_108 : gSS RJ5 108 m_J7_copyOf_9075b 2 := ⟨rfl, (List.forall_mem_cons.mpr ⟨w_1477, (List.forall_mem_cons.mpr ⟨w_1478, (List.forall_mem_cons.mpr ⟨w_123, (fun _ h => absurd h List.not_mem_nil)⟩)⟩)⟩), cw_J7_copyOf_9075b, ⟨by decide, by decide, by decide +kernel⟩, by decide⟩
theorem pf_J5_15 : gFq RJ5 15 10 0 (.array .byte) false := ⟨RJ4, TJ4, 4, "java/lang/AbstractStringBuilder", tyJ4, rfl, by decide, rfl, uw_J4, w_411, Or.inl rfl, tyJ4_ok, nmJ4, rfl, by first | (intro _; rfl) | (intro h; cases h), by decide +kernel⟩
theorem s_J5_114 : gSS RJ5 114 m_J8_newLength_cabcc 3 := ⟨rfl, (List.forall_mem_cons.mpr ⟨w_1468, (List.forall_mem_cons.mpr ⟨w_1469, (List.forall_mem_cons.mpr ⟨w_126, (fun _ h => absurd h List.not_mem_nil)⟩)⟩)⟩), cw_J8_newLength_cabcc, ⟨by decide, by decide, by decide +kernel⟩, by decide⟩
theorem k_J5_39 : Cond.constant RJ5 39 (2147483647 : Int32) ∈ wA := w_1476
theorem lk_J5_18 : Cond.fieldLink RJ5 18 "java/lang/String" "COMPACT_STRINGS" "Z" ∈ wA := w_402
theorem mw_J8_194 : gMw RJ8 194 Lib.Math.max.name Lib.Math.max.code := ⟨w_1471, w_589, w_112, w_590⟩
theorem k_J8_200 : Cond.constant RJ8 200 (2147483639 : Int32) ∈ wA := w_1472
theorem mw_J7_304 : gMw RJ7 304 Lib.Math.min.name Lib.Math.min.code := ⟨w_1487, w_517, w_112, w_518⟩
theorem ac_J7_150 : Cond.methodLink RJ7 150 arraycopyName ∈ wA ∧ Cond.native arraycopyName ∈ wA ∧ Cond.static arraycopyName ∈ wA ∧ Cond.initialized "java/lang/System" ∈ wA := ⟨w_1488, w_578, w_577, w_113⟩
theorem s_J4_53 : gSX RJ4 53 m_J5_append_c97b9 1 := ⟨rfl, (List.forall_mem_cons.mpr ⟨w_1567, (List.forall_mem_cons.mpr ⟨w_2547, (List.forall_mem_cons.mpr ⟨w_424, (List.forall_mem_cons.mpr ⟨w_1568, (List.forall_mem_cons.mpr ⟨w_107, (fun _ h => absurd h List.not_mem_nil)⟩)⟩)⟩)⟩)⟩), cw_J5_append_c97b9, ⟨by decide, by decide +kernel⟩, by decide⟩
theorem s_J5_245 : gSS RJ5 245 m_J6_stringSize_0f7a4 1 := ⟨rfl, (List.forall_mem_cons.mpr ⟨w_1570, (List.forall_mem_cons.mpr ⟨w_1571, (List.forall_mem_cons.mpr ⟨w_130, (fun _ h => absurd h List.not_mem_nil)⟩)⟩)⟩), cw_J6_stringSize_0f7a4, ⟨by decide, by decide, by decide +kernel⟩, by decide⟩
theorem s_J5_248 : gSS RJ5 248 m_J6_getChars_ba4f3 3 := ⟨rfl, (List.forall_mem_cons.mpr ⟨w_1573, (List.forall_mem_cons.mpr ⟨w_1574, (List.forall_mem_cons.mpr ⟨w_130, (fun _ h => absurd h List.not_mem_nil)⟩)⟩)⟩), cw_J6_getChars_ba4f3, ⟨by decide, by decide, by decide +kernel⟩, by decide⟩
theorem lk_J6_83 : Cond.fieldLink RJ6 83 "java/lang/Integer" "DigitOnes" "[B" ∈ wA := w_1576
theorem lk_J6_87 : Cond.fieldLink RJ6 87 "java/lang/Integer" "DigitTens" "[B" ∈ wA := w_1578
theorem s_J4_329 : gSX RJ4 329 m_J5_charAt_5068e 1 := ⟨rfl, (List.forall_mem_cons.mpr ⟨w_1727, (List.forall_mem_cons.mpr ⟨w_2550, (List.forall_mem_cons.mpr ⟨w_424, (List.forall_mem_cons.mpr ⟨w_1728, (List.forall_mem_cons.mpr ⟨w_107, (fun _ h => absurd h List.not_mem_nil)⟩)⟩)⟩)⟩)⟩), cw_J5_charAt_5068e, ⟨by decide, by decide +kernel⟩, by decide⟩
theorem mw_J5_138 : gMw RJ5 138 Lib.Math.min.name Lib.Math.min.code := ⟨w_1730, w_517, w_112, w_518⟩
theorem s_J5_144 : gSS RJ5 144 m_J0_checkIndex_df160 2 := ⟨rfl, (List.forall_mem_cons.mpr ⟨w_1731, (List.forall_mem_cons.mpr ⟨w_1702, (List.forall_mem_cons.mpr ⟨w_109, (fun _ h => absurd h List.not_mem_nil)⟩)⟩)⟩), cw_J0_checkIndex_df160, ⟨by decide, by decide, by decide +kernel⟩, by decide⟩
theorem lk_J0_1053 : Cond.fieldLink RJ0 1053 "jdk/internal/util/Preconditions" "SIOOBE_FORMATTER" "Ljava/util/function/BiFunction;" ∈ wA := w_1506
theorem s_J0_1059 : gSS RJ0 1059 m_J3_checkIndex_8e157 3 := ⟨rfl, (List.forall_mem_cons.mpr ⟨w_1704, (List.forall_mem_cons.mpr ⟨w_1705, (List.forall_mem_cons.mpr ⟨w_127, (fun _ h => absurd h List.not_mem_nil)⟩)⟩)⟩), cw_J3_checkIndex_8e157, ⟨by decide, by decide, by decide +kernel⟩, by decide⟩
theorem s_J4_333 : gSX RJ4 333 m_J5_setLength_d00df 1 := ⟨rfl, (List.forall_mem_cons.mpr ⟨w_1438, (List.forall_mem_cons.mpr ⟨w_2539, (List.forall_mem_cons.mpr ⟨w_424, (List.forall_mem_cons.mpr ⟨w_1439, (List.forall_mem_cons.mpr ⟨w_107, (fun _ h => absurd h List.not_mem_nil)⟩)⟩)⟩)⟩)⟩), cw_J5_setLength_d00df, ⟨by decide, by decide +kernel⟩, by decide⟩
theorem pf_J5_73 : gFq RJ5 73 10 2 .boolean false := ⟨RJ4, TJ4, 4, "java/lang/AbstractStringBuilder", tyJ4, rfl, by decide, rfl, uw_J4, w_413, Or.inl rfl, tyJ4_ok, nmJ4, rfl, by first | (intro _; rfl) | (intro h; cases h), by decide +kernel⟩
theorem s_J4_343 : gSX RJ4 343 m_J5_length_8abf5 0 := ⟨rfl, (List.forall_mem_cons.mpr ⟨w_1611, (List.forall_mem_cons.mpr ⟨w_1607, (List.forall_mem_cons.mpr ⟨w_424, (List.forall_mem_cons.mpr ⟨w_1606, (List.forall_mem_cons.mpr ⟨w_107, (fun _ h => absurd h List.not_mem_nil)⟩)⟩)⟩)⟩)⟩), cw_J5_length_8abf5, ⟨by decide, by decide +kernel⟩, by decide⟩
theorem lk_J0_9 : Cond.fieldLink RJ0 9 "java/lang/String" "value" "[B" ∈ wA := w_1644
theorem wl_J0_335 : ∀ w ∈ ([.methodLink RJ0 335 yJ0_coder_7d493, .instanceMethod yJ0_coder_7d493, .selects "java/lang/String" yJ0_coder_7d493 yJ0_coder_7d493, .initialized "java/lang/String"] : List Cond), w ∈ wA := (List.forall_mem_cons.mpr ⟨w_1524, (List.forall_mem_cons.mpr ⟨w_1525, (List.forall_mem_cons.mpr ⟨w_1526, (List.forall_mem_cons.mpr ⟨w_109, (fun _ h => absurd h List.not_mem_nil)⟩)⟩)⟩)⟩)
theorem wl_J0_492 : ∀ w ∈ ([.methodLink RJ0 492 yJ0_isLatin1_aae02, .instanceMethod yJ0_isLatin1_aae02, .selects "java/lang/String" yJ0_isLatin1_aae02 yJ0_isLatin1_aae02, .initialized "java/lang/String"] : List Cond), w ∈ wA := (List.forall_mem_cons.mpr ⟨w_1775, (List.forall_mem_cons.mpr ⟨w_1776, (List.forall_mem_cons.mpr ⟨w_1777, (List.forall_mem_cons.mpr ⟨w_109, (fun _ h => absurd h List.not_mem_nil)⟩)⟩)⟩)⟩)
theorem s_J0_495 : gSS RJ0 495 m_J1_charAt_3b067 2 := ⟨rfl, (List.forall_mem_cons.mpr ⟨w_1779, (List.forall_mem_cons.mpr ⟨w_1780, (List.forall_mem_cons.mpr ⟨w_128, (fun _ h => absurd h List.not_mem_nil)⟩)⟩)⟩), cw_J1_charAt_3b067, ⟨by decide, by decide, by decide +kernel⟩, by decide⟩
theorem lk_J0_38 : Cond.fieldLink RJ0 38 "java/lang/String" "COMPACT_STRINGS" "Z" ∈ wA := w_1528
theorem lk_J0_15 : Cond.fieldLink RJ0 15 "java/lang/String" "coder" "B" ∈ wA := w_1645
theorem s_J1_9 : gSS RJ1 9 m_J0_checkIndex_df160 2 := ⟨rfl, (List.forall_mem_cons.mpr ⟨w_1782, (List.forall_mem_cons.mpr ⟨w_1702, (List.forall_mem_cons.mpr ⟨w_109, (fun _ h => absurd h List.not_mem_nil)⟩)⟩)⟩), cw_J0_checkIndex_df160, ⟨by decide, by decide, by decide +kernel⟩, by decide⟩
theorem lk_Jx29ce0_7 : Cond.fieldLink RJx29ce0 7 "java/lang/Enum" "ordinal" "I" ∈ wA := w_2576
theorem pf_J5_22 : gFq RJ5 22 10 1 .byte false := ⟨RJ4, TJ4, 4, "java/lang/AbstractStringBuilder", tyJ4, rfl, by decide, rfl, uw_J4, w_412, Or.inl rfl, tyJ4_ok, nmJ4, rfl, by first | (intro _; rfl) | (intro h; cases h), by decide +kernel⟩
theorem ab_ : Cond.arrayClass .byte ∈ wA := w_425
