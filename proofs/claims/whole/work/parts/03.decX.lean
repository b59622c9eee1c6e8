theorem dX1_init_0 : decode cX1_init 0 = .ok (.aload_n 0, 1) := by decide +kernel
theorem dX1_init_1 : decode cX1_init 1 = .ok (.invokespecial 3, 3) := by decide +kernel
theorem dX1_init_4 : decode cX1_init 4 = .ok (.aload_n 0, 1) := by decide +kernel
theorem dX1_init_5 : decode cX1_init 5 = .ok (.new 9, 3) := by decide +kernel
theorem dX1_init_8 : decode cX1_init 8 = .ok (.dup, 1) := by decide +kernel
theorem dX1_init_9 : decode cX1_init 9 = .ok (.invokespecial 11, 3) := by decide +kernel
theorem dX1_init_12 : decode cX1_init 12 = .ok (.putfield 12, 3) := by decide +kernel
theorem dX1_init_15 : decode cX1_init 15 = .ok (.aload_n 0, 1) := by decide +kernel
theorem dX1_init_16 : decode cX1_init 16 = .ok (.new 18, 3) := by decide +kernel
theorem dX1_init_19 : decode cX1_init 19 = .ok (.dup, 1) := by decide +kernel
theorem dX1_init_20 : decode cX1_init 20 = .ok (.invokespecial 20, 3) := by decide +kernel
theorem dX1_init_23 : decode cX1_init 23 = .ok (.putfield 21, 3) := by decide +kernel
theorem dX1_init_26 : decode cX1_init 26 = .ok (.aload_n 0, 1) := by decide +kernel
theorem dX1_init_27 : decode cX1_init 27 = .ok (.new 25, 3) := by decide +kernel
theorem dX1_init_30 : decode cX1_init 30 = .ok (.dup, 1) := by decide +kernel
theorem dX1_init_31 : decode cX1_init 31 = .ok (.invokespecial 27, 3) := by decide +kernel
theorem dX1_init_34 : decode cX1_init 34 = .ok (.putfield 28, 3) := by decide +kernel
theorem dX1_init_37 : decode cX1_init 37 = .ok (.aload_n 0, 1) := by decide +kernel
theorem dX1_init_38 : decode cX1_init 38 = .ok (.new 32, 3) := by decide +kernel
theorem dX1_init_41 : decode cX1_init 41 = .ok (.dup, 1) := by decide +kernel
theorem dX1_init_42 : decode cX1_init 42 = .ok (.invokespecial 34, 3) := by decide +kernel
theorem dX1_init_45 : decode cX1_init 45 = .ok (.putfield 35, 3) := by decide +kernel
theorem dX1_init_48 : decode cX1_init 48 = .ok (.aload_n 0, 1) := by decide +kernel
theorem dX1_init_49 : decode cX1_init 49 = .ok (.new 39, 3) := by decide +kernel
theorem dX1_init_52 : decode cX1_init 52 = .ok (.dup, 1) := by decide +kernel
theorem dX1_init_53 : decode cX1_init 53 = .ok (.invokespecial 41, 3) := by decide +kernel
theorem dX1_init_56 : decode cX1_init 56 = .ok (.putfield 42, 3) := by decide +kernel
theorem dX1_init_59 : decode cX1_init 59 = .ok (.return_, 1) := by decide +kernel
theorem dX1_copyFrom_0 : decode cX1_copyFrom 0 = .ok (.aload_n 0, 1) := by decide +kernel
theorem dX1_copyFrom_1 : decode cX1_copyFrom 1 = .ok (.getfield 12, 3) := by decide +kernel
theorem dX1_copyFrom_4 : decode cX1_copyFrom 4 = .ok (.aload_n 1, 1) := by decide +kernel
theorem dX1_copyFrom_5 : decode cX1_copyFrom 5 = .ok (.getfield 12, 3) := by decide +kernel
theorem dX1_copyFrom_8 : decode cX1_copyFrom 8 = .ok (.invokevirtual 46, 3) := by decide +kernel
theorem dX1_copyFrom_11 : decode cX1_copyFrom 11 = .ok (.aload_n 0, 1) := by decide +kernel
theorem dX1_copyFrom_12 : decode cX1_copyFrom 12 = .ok (.getfield 21, 3) := by decide +kernel
theorem dX1_copyFrom_15 : decode cX1_copyFrom 15 = .ok (.aload_n 1, 1) := by decide +kernel
theorem dX1_copyFrom_16 : decode cX1_copyFrom 16 = .ok (.getfield 21, 3) := by decide +kernel
theorem dX1_copyFrom_19 : decode cX1_copyFrom 19 = .ok (.invokevirtual 50, 3) := by decide +kernel
theorem dX1_copyFrom_22 : decode cX1_copyFrom 22 = .ok (.aload_n 0, 1) := by decide +kernel
theorem dX1_copyFrom_23 : decode cX1_copyFrom 23 = .ok (.getfield 28, 3) := by decide +kernel
theorem dX1_copyFrom_26 : decode cX1_copyFrom 26 = .ok (.aload_n 1, 1) := by decide +kernel
theorem dX1_copyFrom_27 : decode cX1_copyFrom 27 = .ok (.getfield 28, 3) := by decide +kernel
theorem dX1_copyFrom_30 : decode cX1_copyFrom 30 = .ok (.invokevirtual 53, 3) := by decide +kernel
theorem dX1_copyFrom_33 : decode cX1_copyFrom 33 = .ok (.aload_n 0, 1) := by decide +kernel
theorem dX1_copyFrom_34 : decode cX1_copyFrom 34 = .ok (.getfield 35, 3) := by decide +kernel
theorem dX1_copyFrom_37 : decode cX1_copyFrom 37 = .ok (.aload_n 1, 1) := by decide +kernel
theorem dX1_copyFrom_38 : decode cX1_copyFrom 38 = .ok (.getfield 35, 3) := by decide +kernel
theorem dX1_copyFrom_41 : decode cX1_copyFrom 41 = .ok (.invokevirtual 56, 3) := by decide +kernel
theorem dX1_copyFrom_44 : decode cX1_copyFrom 44 = .ok (.aload_n 0, 1) := by decide +kernel
theorem dX1_copyFrom_45 : decode cX1_copyFrom 45 = .ok (.getfield 42, 3) := by decide +kernel
theorem dX1_copyFrom_48 : decode cX1_copyFrom 48 = .ok (.aload_n 1, 1) := by decide +kernel
theorem dX1_copyFrom_49 : decode cX1_copyFrom 49 = .ok (.getfield 42, 3) := by decide +kernel
theorem dX1_copyFrom_52 : decode cX1_copyFrom 52 = .ok (.invokevirtual 59, 3) := by decide +kernel
theorem dX1_copyFrom_55 : decode cX1_copyFrom 55 = .ok (.aload_n 0, 1) := by decide +kernel
theorem dX1_copyFrom_56 : decode cX1_copyFrom 56 = .ok (.aload_n 1, 1) := by decide +kernel
theorem dX1_copyFrom_57 : decode cX1_copyFrom 57 = .ok (.getfield 62, 3) := by decide +kernel
theorem dX1_copyFrom_60 : decode cX1_copyFrom 60 = .ok (.putfield 62, 3) := by decide +kernel
theorem dX1_copyFrom_63 : decode cX1_copyFrom 63 = .ok (.aload_n 0, 1) := by decide +kernel
theorem dX1_copyFrom_64 : decode cX1_copyFrom 64 = .ok (.aload_n 1, 1) := by decide +kernel
theorem dX1_copyFrom_65 : decode cX1_copyFrom 65 = .ok (.getfield 66, 3) := by decide +kernel
theorem dX1_copyFrom_68 : decode cX1_copyFrom 68 = .ok (.putfield 66, 3) := by decide +kernel
theorem dX1_copyFrom_71 : decode cX1_copyFrom 71 = .ok (.aload_n 0, 1) := by decide +kernel
theorem dX1_copyFrom_72 : decode cX1_copyFrom 72 = .ok (.aload_n 1, 1) := by decide +kernel
theorem dX1_copyFrom_73 : decode cX1_copyFrom 73 = .ok (.getfield 69, 3) := by decide +kernel
theorem dX1_copyFrom_76 : decode cX1_copyFrom 76 = .ok (.putfield 69, 3) := by decide +kernel
theorem dX1_copyFrom_79 : decode cX1_copyFrom 79 = .ok (.aload_n 0, 1) := by decide +kernel
theorem dX1_copyFrom_80 : decode cX1_copyFrom 80 = .ok (.aload_n 1, 1) := by decide +kernel
theorem dX1_copyFrom_81 : decode cX1_copyFrom 81 = .ok (.getfield 72, 3) := by decide +kernel
theorem dX1_copyFrom_84 : decode cX1_copyFrom 84 = .ok (.putfield 72, 3) := by decide +kernel
theorem dX1_copyFrom_87 : decode cX1_copyFrom 87 = .ok (.aload_n 0, 1) := by decide +kernel
theorem dX1_copyFrom_88 : decode cX1_copyFrom 88 = .ok (.aload_n 1, 1) := by decide +kernel
theorem dX1_copyFrom_89 : decode cX1_copyFrom 89 = .ok (.getfield 75, 3) := by decide +kernel
theorem dX1_copyFrom_92 : decode cX1_copyFrom 92 = .ok (.putfield 75, 3) := by decide +kernel
theorem dX1_copyFrom_95 : decode cX1_copyFrom 95 = .ok (.aload_n 0, 1) := by decide +kernel
theorem dX1_copyFrom_96 : decode cX1_copyFrom 96 = .ok (.aload_n 1, 1) := by decide +kernel
theorem dX1_copyFrom_97 : decode cX1_copyFrom 97 = .ok (.getfield 78, 3) := by decide +kernel
theorem dX1_copyFrom_100 : decode cX1_copyFrom 100 = .ok (.putfield 78, 3) := by decide +kernel
theorem dX1_copyFrom_103 : decode cX1_copyFrom 103 = .ok (.aload_n 0, 1) := by decide +kernel
theorem dX1_copyFrom_104 : decode cX1_copyFrom 104 = .ok (.aload_n 1, 1) := by decide +kernel
theorem dX1_copyFrom_105 : decode cX1_copyFrom 105 = .ok (.getfield 81, 3) := by decide +kernel
theorem dX1_copyFrom_108 : decode cX1_copyFrom 108 = .ok (.putfield 81, 3) := by decide +kernel
theorem dX1_copyFrom_111 : decode cX1_copyFrom 111 = .ok (.return_, 1) := by decide +kernel
theorem dX1_makePolicy_0 : decode cX1_makePolicy 0 = .ok (.aload_n 0, 1) := by decide +kernel
theorem dX1_makePolicy_1 : decode cX1_makePolicy 1 = .ok (.getfield 12, 3) := by decide +kernel
theorem dX1_makePolicy_4 : decode cX1_makePolicy 4 = .ok (.iload_n 1, 1) := by decide +kernel
theorem dX1_makePolicy_5 : decode cX1_makePolicy 5 = .ok (.iload_n 2, 1) := by decide +kernel
theorem dX1_makePolicy_6 : decode cX1_makePolicy 6 = .ok (.iload_n 3, 1) := by decide +kernel
theorem dX1_makePolicy_7 : decode cX1_makePolicy 7 = .ok (.aload_n 0, 1) := by decide +kernel
theorem dX1_makePolicy_8 : decode cX1_makePolicy 8 = .ok (.getfield 62, 3) := by decide +kernel
theorem dX1_makePolicy_11 : decode cX1_makePolicy 11 = .ok (.invokevirtual 84, 3) := by decide +kernel
theorem dX1_makePolicy_14 : decode cX1_makePolicy 14 = .ok (.istore 4, 2) := by decide +kernel
theorem dX1_makePolicy_16 : decode cX1_makePolicy 16 = .ok (.aload_n 0, 1) := by decide +kernel
theorem dX1_makePolicy_17 : decode cX1_makePolicy 17 = .ok (.dup, 1) := by decide +kernel
theorem dX1_makePolicy_18 : decode cX1_makePolicy 18 = .ok (.getfield 69, 3) := by decide +kernel
theorem dX1_makePolicy_21 : decode cX1_makePolicy 21 = .ok (.aload_n 0, 1) := by decide +kernel
theorem dX1_makePolicy_22 : decode cX1_makePolicy 22 = .ok (.getfield 12, 3) := by decide +kernel
theorem dX1_makePolicy_25 : decode cX1_makePolicy 25 = .ok (.getfield 88, 3) := by decide +kernel
theorem dX1_makePolicy_28 : decode cX1_makePolicy 28 = .ok (.iload 4, 2) := by decide +kernel
theorem dX1_makePolicy_30 : decode cX1_makePolicy 30 = .ok (.iaload, 1) := by decide +kernel
theorem dX1_makePolicy_31 : decode cX1_makePolicy 31 = .ok (.iadd, 1) := by decide +kernel
theorem dX1_makePolicy_32 : decode cX1_makePolicy 32 = .ok (.putfield 69, 3) := by decide +kernel
theorem dX1_makePolicy_35 : decode cX1_makePolicy 35 = .ok (.aload_n 0, 1) := by decide +kernel
theorem dX1_makePolicy_36 : decode cX1_makePolicy 36 = .ok (.dup, 1) := by decide +kernel
theorem dX1_makePolicy_37 : decode cX1_makePolicy 37 = .ok (.getfield 66, 3) := by decide +kernel
theorem dX1_makePolicy_40 : decode cX1_makePolicy 40 = .ok (.aload_n 0, 1) := by decide +kernel
theorem dX1_makePolicy_41 : decode cX1_makePolicy 41 = .ok (.getfield 12, 3) := by decide +kernel
theorem dX1_makePolicy_44 : decode cX1_makePolicy 44 = .ok (.getfield 88, 3) := by decide +kernel
theorem dX1_makePolicy_47 : decode cX1_makePolicy 47 = .ok (.iload 4, 2) := by decide +kernel
theorem dX1_makePolicy_49 : decode cX1_makePolicy 49 = .ok (.iaload, 1) := by decide +kernel
theorem dX1_makePolicy_50 : decode cX1_makePolicy 50 = .ok (.iadd, 1) := by decide +kernel
theorem dX1_makePolicy_51 : decode cX1_makePolicy 51 = .ok (.putfield 66, 3) := by decide +kernel
theorem dX1_makePolicy_54 : decode cX1_makePolicy 54 = .ok (.aload_n 0, 1) := by decide +kernel
theorem dX1_makePolicy_55 : decode cX1_makePolicy 55 = .ok (.getfield 12, 3) := by decide +kernel
theorem dX1_makePolicy_58 : decode cX1_makePolicy 58 = .ok (.getfield 92, 3) := by decide +kernel
theorem dX1_makePolicy_61 : decode cX1_makePolicy 61 = .ok (.iload 4, 2) := by decide +kernel
theorem dX1_makePolicy_63 : decode cX1_makePolicy 63 = .ok (.iaload, 1) := by decide +kernel
theorem dX1_makePolicy_64 : decode cX1_makePolicy 64 = .ok (.ireturn, 1) := by decide +kernel
theorem dX1_removePolicy_0 : decode cX1_removePolicy 0 = .ok (.aload_n 0, 1) := by decide +kernel
theorem dX1_removePolicy_1 : decode cX1_removePolicy 1 = .ok (.getfield 12, 3) := by decide +kernel
theorem dX1_removePolicy_4 : decode cX1_removePolicy 4 = .ok (.iload_n 1, 1) := by decide +kernel
theorem dX1_removePolicy_5 : decode cX1_removePolicy 5 = .ok (.invokevirtual 95, 3) := by decide +kernel
theorem dX1_removePolicy_8 : decode cX1_removePolicy 8 = .ok (.istore_n 2, 1) := by decide +kernel
theorem dX1_removePolicy_9 : decode cX1_removePolicy 9 = .ok (.aload_n 0, 1) := by decide +kernel
theorem dX1_removePolicy_10 : decode cX1_removePolicy 10 = .ok (.getfield 21, 3) := by decide +kernel
theorem dX1_removePolicy_13 : decode cX1_removePolicy 13 = .ok (.getfield 99, 3) := by decide +kernel
theorem dX1_removePolicy_16 : decode cX1_removePolicy 16 = .ok (.aload_n 0, 1) := by decide +kernel
theorem dX1_removePolicy_17 : decode cX1_removePolicy 17 = .ok (.getfield 21, 3) := by decide +kernel
theorem dX1_removePolicy_20 : decode cX1_removePolicy 20 = .ok (.getfield 101, 3) := by decide +kernel
theorem dX1_removePolicy_23 : decode cX1_removePolicy 23 = .ok (.iload_n 1, 1) := by decide +kernel
theorem dX1_removePolicy_24 : decode cX1_removePolicy 24 = .ok (.invokestatic 104, 3) := by decide +kernel
theorem dX1_removePolicy_27 : decode cX1_removePolicy 27 = .ok (.ifCond .lt 13, 3) := by decide +kernel
theorem dX1_removePolicy_30 : decode cX1_removePolicy 30 = .ok (.new 108, 3) := by decide +kernel
theorem dX1_removePolicy_33 : decode cX1_removePolicy 33 = .ok (.dup, 1) := by decide +kernel
theorem dX1_removePolicy_34 : decode cX1_removePolicy 34 = .ok (.ldc 110, 2) := by decide +kernel
theorem dX1_removePolicy_36 : decode cX1_removePolicy 36 = .ok (.invokespecial 112, 3) := by decide +kernel
theorem dX1_removePolicy_39 : decode cX1_removePolicy 39 = .ok (.athrow, 1) := by decide +kernel
theorem dX1_removePolicy_40 : decode cX1_removePolicy 40 = .ok (.aload_n 0, 1) := by decide +kernel
theorem dX1_removePolicy_41 : decode cX1_removePolicy 41 = .ok (.getfield 12, 3) := by decide +kernel
theorem dX1_removePolicy_44 : decode cX1_removePolicy 44 = .ok (.iload_n 2, 1) := by decide +kernel
theorem dX1_removePolicy_45 : decode cX1_removePolicy 45 = .ok (.aload_n 0, 1) := by decide +kernel
theorem dX1_removePolicy_46 : decode cX1_removePolicy 46 = .ok (.getfield 62, 3) := by decide +kernel
theorem dX1_removePolicy_49 : decode cX1_removePolicy 49 = .ok (.invokevirtual 115, 3) := by decide +kernel
theorem dX1_removePolicy_52 : decode cX1_removePolicy 52 = .ok (.istore_n 3, 1) := by decide +kernel
theorem dX1_removePolicy_53 : decode cX1_removePolicy 53 = .ok (.aload_n 0, 1) := by decide +kernel
theorem dX1_removePolicy_54 : decode cX1_removePolicy 54 = .ok (.getfield 12, 3) := by decide +kernel
theorem dX1_removePolicy_57 : decode cX1_removePolicy 57 = .ok (.iload_n 2, 1) := by decide +kernel
theorem dX1_removePolicy_58 : decode cX1_removePolicy 58 = .ok (.invokevirtual 119, 3) := by decide +kernel
theorem dX1_removePolicy_61 : decode cX1_removePolicy 61 = .ok (.aload_n 0, 1) := by decide +kernel
theorem dX1_removePolicy_62 : decode cX1_removePolicy 62 = .ok (.dup, 1) := by decide +kernel
theorem dX1_removePolicy_63 : decode cX1_removePolicy 63 = .ok (.getfield 72, 3) := by decide +kernel
theorem dX1_removePolicy_66 : decode cX1_removePolicy 66 = .ok (.iload_n 3, 1) := by decide +kernel
theorem dX1_removePolicy_67 : decode cX1_removePolicy 67 = .ok (.iadd, 1) := by decide +kernel
theorem dX1_removePolicy_68 : decode cX1_removePolicy 68 = .ok (.putfield 72, 3) := by decide +kernel
theorem dX1_removePolicy_71 : decode cX1_removePolicy 71 = .ok (.aload_n 0, 1) := by decide +kernel
theorem dX1_removePolicy_72 : decode cX1_removePolicy 72 = .ok (.dup, 1) := by decide +kernel
theorem dX1_removePolicy_73 : decode cX1_removePolicy 73 = .ok (.getfield 66, 3) := by decide +kernel
theorem dX1_removePolicy_76 : decode cX1_removePolicy 76 = .ok (.iload_n 3, 1) := by decide +kernel
theorem dX1_removePolicy_77 : decode cX1_removePolicy 77 = .ok (.isub, 1) := by decide +kernel
theorem dX1_removePolicy_78 : decode cX1_removePolicy 78 = .ok (.putfield 66, 3) := by decide +kernel
theorem dX1_removePolicy_81 : decode cX1_removePolicy 81 = .ok (.iload_n 3, 1) := by decide +kernel
theorem dX1_removePolicy_82 : decode cX1_removePolicy 82 = .ok (.ireturn, 1) := by decide +kernel
theorem dX1_makeTreaty_0 : decode cX1_makeTreaty 0 = .ok (.iload 4, 2) := by decide +kernel
theorem dX1_makeTreaty_2 : decode cX1_makeTreaty 2 = .ok (.iconst 0, 1) := by decide +kernel
theorem dX1_makeTreaty_3 : decode cX1_makeTreaty 3 = .ok (.bipush 99, 2) := by decide +kernel
theorem dX1_makeTreaty_5 : decode cX1_makeTreaty 5 = .ok (.invokestatic 123, 3) := by decide +kernel
theorem dX1_makeTreaty_8 : decode cX1_makeTreaty 8 = .ok (.pop, 1) := by decide +kernel
theorem dX1_makeTreaty_9 : decode cX1_makeTreaty 9 = .ok (.aload_n 0, 1) := by decide +kernel
theorem dX1_makeTreaty_10 : decode cX1_makeTreaty 10 = .ok (.getfield 28, 3) := by decide +kernel
theorem dX1_makeTreaty_13 : decode cX1_makeTreaty 13 = .ok (.iload_n 1, 1) := by decide +kernel
theorem dX1_makeTreaty_14 : decode cX1_makeTreaty 14 = .ok (.iload_n 2, 1) := by decide +kernel
theorem dX1_makeTreaty_15 : decode cX1_makeTreaty 15 = .ok (.iload_n 3, 1) := by decide +kernel
theorem dX1_makeTreaty_16 : decode cX1_makeTreaty 16 = .ok (.invokevirtual 127, 3) := by decide +kernel
theorem dX1_makeTreaty_19 : decode cX1_makeTreaty 19 = .ok (.istore 5, 2) := by decide +kernel
theorem dX1_makeTreaty_21 : decode cX1_makeTreaty 21 = .ok (.aload_n 0, 1) := by decide +kernel
theorem dX1_makeTreaty_22 : decode cX1_makeTreaty 22 = .ok (.dup, 1) := by decide +kernel
theorem dX1_makeTreaty_23 : decode cX1_makeTreaty 23 = .ok (.getfield 75, 3) := by decide +kernel
theorem dX1_makeTreaty_26 : decode cX1_makeTreaty 26 = .ok (.iload 4, 2) := by decide +kernel
theorem dX1_makeTreaty_28 : decode cX1_makeTreaty 28 = .ok (.iadd, 1) := by decide +kernel
theorem dX1_makeTreaty_29 : decode cX1_makeTreaty 29 = .ok (.putfield 75, 3) := by decide +kernel
theorem dX1_makeTreaty_32 : decode cX1_makeTreaty 32 = .ok (.aload_n 0, 1) := by decide +kernel
theorem dX1_makeTreaty_33 : decode cX1_makeTreaty 33 = .ok (.dup, 1) := by decide +kernel
theorem dX1_makeTreaty_34 : decode cX1_makeTreaty 34 = .ok (.getfield 66, 3) := by decide +kernel
theorem dX1_makeTreaty_37 : decode cX1_makeTreaty 37 = .ok (.iload 4, 2) := by decide +kernel
theorem dX1_makeTreaty_39 : decode cX1_makeTreaty 39 = .ok (.isub, 1) := by decide +kernel
theorem dX1_makeTreaty_40 : decode cX1_makeTreaty 40 = .ok (.putfield 66, 3) := by decide +kernel
theorem dX1_makeTreaty_43 : decode cX1_makeTreaty 43 = .ok (.iload 5, 2) := by decide +kernel
theorem dX1_makeTreaty_45 : decode cX1_makeTreaty 45 = .ok (.ireturn, 1) := by decide +kernel
theorem dX1_removeTreaty_0 : decode cX1_removeTreaty 0 = .ok (.aload_n 0, 1) := by decide +kernel
theorem dX1_removeTreaty_1 : decode cX1_removeTreaty 1 = .ok (.getfield 28, 3) := by decide +kernel
theorem dX1_removeTreaty_4 : decode cX1_removeTreaty 4 = .ok (.getfield 129, 3) := by decide +kernel
theorem dX1_removeTreaty_7 : decode cX1_removeTreaty 7 = .ok (.iload_n 1, 1) := by decide +kernel
theorem dX1_removeTreaty_8 : decode cX1_removeTreaty 8 = .ok (.aload_n 0, 1) := by decide +kernel
theorem dX1_removeTreaty_9 : decode cX1_removeTreaty 9 = .ok (.getfield 28, 3) := by decide +kernel
theorem dX1_removeTreaty_12 : decode cX1_removeTreaty 12 = .ok (.getfield 132, 3) := by decide +kernel
theorem dX1_removeTreaty_15 : decode cX1_removeTreaty 15 = .ok (.invokestatic 133, 3) := by decide +kernel
theorem dX1_removeTreaty_18 : decode cX1_removeTreaty 18 = .ok (.iaload, 1) := by decide +kernel
theorem dX1_removeTreaty_19 : decode cX1_removeTreaty 19 = .ok (.istore_n 2, 1) := by decide +kernel
theorem dX1_removeTreaty_20 : decode cX1_removeTreaty 20 = .ok (.aload_n 0, 1) := by decide +kernel
theorem dX1_removeTreaty_21 : decode cX1_removeTreaty 21 = .ok (.getfield 21, 3) := by decide +kernel
theorem dX1_removeTreaty_24 : decode cX1_removeTreaty 24 = .ok (.iload_n 1, 1) := by decide +kernel
theorem dX1_removeTreaty_25 : decode cX1_removeTreaty 25 = .ok (.invokevirtual 136, 3) := by decide +kernel
theorem dX1_removeTreaty_28 : decode cX1_removeTreaty 28 = .ok (.ifCond .le 13, 3) := by decide +kernel
theorem dX1_removeTreaty_31 : decode cX1_removeTreaty 31 = .ok (.new 108, 3) := by decide +kernel
theorem dX1_removeTreaty_34 : decode cX1_removeTreaty 34 = .ok (.dup, 1) := by decide +kernel
theorem dX1_removeTreaty_35 : decode cX1_removeTreaty 35 = .ok (.ldc 139, 2) := by decide +kernel
theorem dX1_removeTreaty_37 : decode cX1_removeTreaty 37 = .ok (.invokespecial 112, 3) := by decide +kernel
theorem dX1_removeTreaty_40 : decode cX1_removeTreaty 40 = .ok (.athrow, 1) := by decide +kernel
theorem dX1_removeTreaty_41 : decode cX1_removeTreaty 41 = .ok (.aload_n 0, 1) := by decide +kernel
theorem dX1_removeTreaty_42 : decode cX1_removeTreaty 42 = .ok (.getfield 28, 3) := by decide +kernel
theorem dX1_removeTreaty_45 : decode cX1_removeTreaty 45 = .ok (.iload_n 1, 1) := by decide +kernel
theorem dX1_removeTreaty_46 : decode cX1_removeTreaty 46 = .ok (.invokevirtual 141, 3) := by decide +kernel
theorem dX1_removeTreaty_49 : decode cX1_removeTreaty 49 = .ok (.aload_n 0, 1) := by decide +kernel
theorem dX1_removeTreaty_50 : decode cX1_removeTreaty 50 = .ok (.getfield 21, 3) := by decide +kernel
theorem dX1_removeTreaty_53 : decode cX1_removeTreaty 53 = .ok (.iload_n 1, 1) := by decide +kernel
theorem dX1_removeTreaty_54 : decode cX1_removeTreaty 54 = .ok (.invokevirtual 142, 3) := by decide +kernel
theorem dX1_removeTreaty_57 : decode cX1_removeTreaty 57 = .ok (.iload_n 2, 1) := by decide +kernel
theorem dX1_removeTreaty_58 : decode cX1_removeTreaty 58 = .ok (.ireturn, 1) := by decide +kernel
theorem dX1_makeClaim_0 : decode cX1_makeClaim 0 = .ok (.aload_n 0, 1) := by decide +kernel
theorem dX1_makeClaim_1 : decode cX1_makeClaim 1 = .ok (.getfield 12, 3) := by decide +kernel
theorem dX1_makeClaim_4 : decode cX1_makeClaim 4 = .ok (.iload_n 1, 1) := by decide +kernel
theorem dX1_makeClaim_5 : decode cX1_makeClaim 5 = .ok (.invokevirtual 95, 3) := by decide +kernel
theorem dX1_makeClaim_8 : decode cX1_makeClaim 8 = .ok (.istore 4, 2) := by decide +kernel
theorem dX1_makeClaim_10 : decode cX1_makeClaim 10 = .ok (.iload_n 2, 1) := by decide +kernel
theorem dX1_makeClaim_11 : decode cX1_makeClaim 11 = .ok (.invokestatic 145, 3) := by decide +kernel
theorem dX1_makeClaim_14 : decode cX1_makeClaim 14 = .ok (.ifCond .ne 13, 3) := by decide +kernel
theorem dX1_makeClaim_17 : decode cX1_makeClaim 17 = .ok (.new 149, 3) := by decide +kernel
theorem dX1_makeClaim_20 : decode cX1_makeClaim 20 = .ok (.dup, 1) := by decide +kernel
theorem dX1_makeClaim_21 : decode cX1_makeClaim 21 = .ok (.ldc 151, 2) := by decide +kernel
theorem dX1_makeClaim_23 : decode cX1_makeClaim 23 = .ok (.invokespecial 153, 3) := by decide +kernel
theorem dX1_makeClaim_26 : decode cX1_makeClaim 26 = .ok (.athrow, 1) := by decide +kernel
theorem dX1_makeClaim_27 : decode cX1_makeClaim 27 = .ok (.iload_n 3, 1) := by decide +kernel
theorem dX1_makeClaim_28 : decode cX1_makeClaim 28 = .ok (.iconst 1, 1) := by decide +kernel
theorem dX1_makeClaim_29 : decode cX1_makeClaim 29 = .ok (.bipush 99, 2) := by decide +kernel
theorem dX1_makeClaim_31 : decode cX1_makeClaim 31 = .ok (.invokestatic 123, 3) := by decide +kernel
theorem dX1_makeClaim_34 : decode cX1_makeClaim 34 = .ok (.pop, 1) := by decide +kernel
theorem dX1_makeClaim_35 : decode cX1_makeClaim 35 = .ok (.aload_n 0, 1) := by decide +kernel
theorem dX1_makeClaim_36 : decode cX1_makeClaim 36 = .ok (.getfield 12, 3) := by decide +kernel
theorem dX1_makeClaim_39 : decode cX1_makeClaim 39 = .ok (.iload 4, 2) := by decide +kernel
theorem dX1_makeClaim_41 : decode cX1_makeClaim 41 = .ok (.aload_n 0, 1) := by decide +kernel
theorem dX1_makeClaim_42 : decode cX1_makeClaim 42 = .ok (.getfield 62, 3) := by decide +kernel
theorem dX1_makeClaim_45 : decode cX1_makeClaim 45 = .ok (.invokevirtual 154, 3) := by decide +kernel
theorem dX1_makeClaim_48 : decode cX1_makeClaim 48 = .ok (.ifCond .eq 15, 3) := by decide +kernel
theorem dX1_makeClaim_51 : decode cX1_makeClaim 51 = .ok (.aload_n 0, 1) := by decide +kernel
theorem dX1_makeClaim_52 : decode cX1_makeClaim 52 = .ok (.getfield 21, 3) := by decide +kernel
theorem dX1_makeClaim_55 : decode cX1_makeClaim 55 = .ok (.getfield 101, 3) := by decide +kernel
theorem dX1_makeClaim_58 : decode cX1_makeClaim 58 = .ok (.bipush 12, 2) := by decide +kernel
theorem dX1_makeClaim_60 : decode cX1_makeClaim 60 = .ok (.if_icmp .lt 13, 3) := by decide +kernel
theorem dX1_makeClaim_63 : decode cX1_makeClaim 63 = .ok (.new 108, 3) := by decide +kernel
theorem dX1_makeClaim_66 : decode cX1_makeClaim 66 = .ok (.dup, 1) := by decide +kernel
theorem dX1_makeClaim_67 : decode cX1_makeClaim 67 = .ok (.ldc 158, 2) := by decide +kernel
theorem dX1_makeClaim_69 : decode cX1_makeClaim 69 = .ok (.invokespecial 112, 3) := by decide +kernel
theorem dX1_makeClaim_72 : decode cX1_makeClaim 72 = .ok (.athrow, 1) := by decide +kernel
theorem dX1_makeClaim_73 : decode cX1_makeClaim 73 = .ok (.iload_n 3, 1) := by decide +kernel
theorem dX1_makeClaim_74 : decode cX1_makeClaim 74 = .ok (.iload_n 2, 1) := by decide +kernel
theorem dX1_makeClaim_75 : decode cX1_makeClaim 75 = .ok (.iload_n 3, 1) := by decide +kernel
theorem dX1_makeClaim_76 : decode cX1_makeClaim 76 = .ok (.invokestatic 160, 3) := by decide +kernel
theorem dX1_makeClaim_79 : decode cX1_makeClaim 79 = .ok (.isub, 1) := by decide +kernel
theorem dX1_makeClaim_80 : decode cX1_makeClaim 80 = .ok (.aload_n 0, 1) := by decide +kernel
theorem dX1_makeClaim_81 : decode cX1_makeClaim 81 = .ok (.getfield 12, 3) := by decide +kernel
theorem dX1_makeClaim_84 : decode cX1_makeClaim 84 = .ok (.iload 4, 2) := by decide +kernel
theorem dX1_makeClaim_86 : decode cX1_makeClaim 86 = .ok (.invokevirtual 164, 3) := by decide +kernel
theorem dX1_makeClaim_89 : decode cX1_makeClaim 89 = .ok (.invokestatic 167, 3) := by decide +kernel
theorem dX1_makeClaim_92 : decode cX1_makeClaim 92 = .ok (.istore 5, 2) := by decide +kernel
theorem dX1_makeClaim_94 : decode cX1_makeClaim 94 = .ok (.iload 5, 2) := by decide +kernel
theorem dX1_makeClaim_96 : decode cX1_makeClaim 96 = .ok (.iconst 1, 1) := by decide +kernel
theorem dX1_makeClaim_97 : decode cX1_makeClaim 97 = .ok (.if_icmp .ge 13, 3) := by decide +kernel
theorem dX1_makeClaim_100 : decode cX1_makeClaim 100 = .ok (.new 172, 3) := by decide +kernel
theorem dX1_makeClaim_103 : decode cX1_makeClaim 103 = .ok (.dup, 1) := by decide +kernel
theorem dX1_makeClaim_104 : decode cX1_makeClaim 104 = .ok (.ldc 174, 2) := by decide +kernel
theorem dX1_makeClaim_106 : decode cX1_makeClaim 106 = .ok (.invokespecial 176, 3) := by decide +kernel
theorem dX1_makeClaim_109 : decode cX1_makeClaim 109 = .ok (.athrow, 1) := by decide +kernel
theorem dX1_makeClaim_110 : decode cX1_makeClaim 110 = .ok (.aload_n 0, 1) := by decide +kernel
theorem dX1_makeClaim_111 : decode cX1_makeClaim 111 = .ok (.getfield 21, 3) := by decide +kernel
theorem dX1_makeClaim_114 : decode cX1_makeClaim 114 = .ok (.iload_n 1, 1) := by decide +kernel
theorem dX1_makeClaim_115 : decode cX1_makeClaim 115 = .ok (.iload_n 2, 1) := by decide +kernel
theorem dX1_makeClaim_116 : decode cX1_makeClaim 116 = .ok (.iload 5, 2) := by decide +kernel
theorem dX1_makeClaim_118 : decode cX1_makeClaim 118 = .ok (.aload_n 0, 1) := by decide +kernel
theorem dX1_makeClaim_119 : decode cX1_makeClaim 119 = .ok (.getfield 62, 3) := by decide +kernel
theorem dX1_makeClaim_122 : decode cX1_makeClaim 122 = .ok (.invokevirtual 177, 3) := by decide +kernel
theorem dX1_makeClaim_125 : decode cX1_makeClaim 125 = .ok (.istore 6, 2) := by decide +kernel
theorem dX1_makeClaim_127 : decode cX1_makeClaim 127 = .ok (.aload_n 0, 1) := by decide +kernel
theorem dX1_makeClaim_128 : decode cX1_makeClaim 128 = .ok (.getfield 28, 3) := by decide +kernel
theorem dX1_makeClaim_131 : decode cX1_makeClaim 131 = .ok (.iload 5, 2) := by decide +kernel
theorem dX1_makeClaim_133 : decode cX1_makeClaim 133 = .ok (.aload_n 0, 1) := by decide +kernel
theorem dX1_makeClaim_134 : decode cX1_makeClaim 134 = .ok (.getfield 28, 3) := by decide +kernel
theorem dX1_makeClaim_137 : decode cX1_makeClaim 137 = .ok (.getfield 129, 3) := by decide +kernel
theorem dX1_makeClaim_140 : decode cX1_makeClaim 140 = .ok (.aload_n 0, 1) := by decide +kernel
theorem dX1_makeClaim_141 : decode cX1_makeClaim 141 = .ok (.getfield 21, 3) := by decide +kernel
theorem dX1_makeClaim_144 : decode cX1_makeClaim 144 = .ok (.getfield 180, 3) := by decide +kernel
theorem dX1_makeClaim_147 : decode cX1_makeClaim 147 = .ok (.iload 6, 2) := by decide +kernel
theorem dX1_makeClaim_149 : decode cX1_makeClaim 149 = .ok (.aaload, 1) := by decide +kernel
theorem dX1_makeClaim_150 : decode cX1_makeClaim 150 = .ok (.invokevirtual 184, 3) := by decide +kernel
theorem dX1_makeClaim_153 : decode cX1_makeClaim 153 = .ok (.aload_n 0, 1) := by decide +kernel
theorem dX1_makeClaim_154 : decode cX1_makeClaim 154 = .ok (.getfield 12, 3) := by decide +kernel
theorem dX1_makeClaim_157 : decode cX1_makeClaim 157 = .ok (.getfield 188, 3) := by decide +kernel
theorem dX1_makeClaim_160 : decode cX1_makeClaim 160 = .ok (.iload 4, 2) := by decide +kernel
theorem dX1_makeClaim_162 : decode cX1_makeClaim 162 = .ok (.dup2, 1) := by decide +kernel
theorem dX1_makeClaim_163 : decode cX1_makeClaim 163 = .ok (.iaload, 1) := by decide +kernel
theorem dX1_makeClaim_164 : decode cX1_makeClaim 164 = .ok (.iload 5, 2) := by decide +kernel
theorem dX1_makeClaim_166 : decode cX1_makeClaim 166 = .ok (.iadd, 1) := by decide +kernel
theorem dX1_makeClaim_167 : decode cX1_makeClaim 167 = .ok (.iastore, 1) := by decide +kernel
theorem dX1_makeClaim_168 : decode cX1_makeClaim 168 = .ok (.aload_n 0, 1) := by decide +kernel
theorem dX1_makeClaim_169 : decode cX1_makeClaim 169 = .ok (.getfield 21, 3) := by decide +kernel
theorem dX1_makeClaim_172 : decode cX1_makeClaim 172 = .ok (.getfield 191, 3) := by decide +kernel
theorem dX1_makeClaim_175 : decode cX1_makeClaim 175 = .ok (.iload 6, 2) := by decide +kernel
theorem dX1_makeClaim_177 : decode cX1_makeClaim 177 = .ok (.iaload, 1) := by decide +kernel
theorem dX1_makeClaim_178 : decode cX1_makeClaim 178 = .ok (.ireturn, 1) := by decide +kernel
theorem dX1_deductible_0 : decode cX1_deductible 0 = .ok (.iload_n 0, 1) := by decide +kernel
theorem dX1_deductible_1 : decode cX1_deductible 1 = .ok (.bipush 103, 2) := by decide +kernel
theorem dX1_deductible_3 : decode cX1_deductible 3 = .ok (.if_icmp .ne 5, 3) := by decide +kernel
theorem dX1_deductible_6 : decode cX1_deductible 6 = .ok (.iconst 2, 1) := by decide +kernel
theorem dX1_deductible_7 : decode cX1_deductible 7 = .ok (.ireturn, 1) := by decide +kernel
theorem dX1_deductible_8 : decode cX1_deductible 8 = .ok (.iload_n 0, 1) := by decide +kernel
theorem dX1_deductible_9 : decode cX1_deductible 9 = .ok (.bipush 119, 2) := by decide +kernel
theorem dX1_deductible_11 : decode cX1_deductible 11 = .ok (.if_icmp .ne 11, 3) := by decide +kernel
theorem dX1_deductible_14 : decode cX1_deductible 14 = .ok (.iload_n 1, 1) := by decide +kernel
theorem dX1_deductible_15 : decode cX1_deductible 15 = .ok (.bipush 9, 2) := by decide +kernel
theorem dX1_deductible_17 : decode cX1_deductible 17 = .ok (.iadd, 1) := by decide +kernel
theorem dX1_deductible_18 : decode cX1_deductible 18 = .ok (.bipush 10, 2) := by decide +kernel
theorem dX1_deductible_20 : decode cX1_deductible 20 = .ok (.idiv, 1) := by decide +kernel
theorem dX1_deductible_21 : decode cX1_deductible 21 = .ok (.ireturn, 1) := by decide +kernel
theorem dX1_deductible_22 : decode cX1_deductible 22 = .ok (.iload_n 0, 1) := by decide +kernel
theorem dX1_deductible_23 : decode cX1_deductible 23 = .ok (.bipush 102, 2) := by decide +kernel
theorem dX1_deductible_25 : decode cX1_deductible 25 = .ok (.if_icmp .ne 11, 3) := by decide +kernel
theorem dX1_deductible_28 : decode cX1_deductible 28 = .ok (.iload_n 1, 1) := by decide +kernel
theorem dX1_deductible_29 : decode cX1_deductible 29 = .ok (.iconst 4, 1) := by decide +kernel
theorem dX1_deductible_30 : decode cX1_deductible 30 = .ok (.idiv, 1) := by decide +kernel
theorem dX1_deductible_31 : decode cX1_deductible 31 = .ok (.iconst 1, 1) := by decide +kernel
theorem dX1_deductible_32 : decode cX1_deductible 32 = .ok (.iadd, 1) := by decide +kernel
theorem dX1_deductible_33 : decode cX1_deductible 33 = .ok (.goto 4, 3) := by decide +kernel
theorem dX1_deductible_36 : decode cX1_deductible 36 = .ok (.iconst 0, 1) := by decide +kernel
theorem dX1_deductible_37 : decode cX1_deductible 37 = .ok (.ireturn, 1) := by decide +kernel
theorem dX1_payPart_0 : decode cX1_payPart 0 = .ok (.aload_n 0, 1) := by decide +kernel
theorem dX1_payPart_1 : decode cX1_payPart 1 = .ok (.getfield 21, 3) := by decide +kernel
theorem dX1_payPart_4 : decode cX1_payPart 4 = .ok (.iload_n 1, 1) := by decide +kernel
theorem dX1_payPart_5 : decode cX1_payPart 5 = .ok (.invokevirtual 192, 3) := by decide +kernel
theorem dX1_payPart_8 : decode cX1_payPart 8 = .ok (.istore_n 3, 1) := by decide +kernel
theorem dX1_payPart_9 : decode cX1_payPart 9 = .ok (.iload_n 2, 1) := by decide +kernel
theorem dX1_payPart_10 : decode cX1_payPart 10 = .ok (.iconst 1, 1) := by decide +kernel
theorem dX1_payPart_11 : decode cX1_payPart 11 = .ok (.bipush 99, 2) := by decide +kernel
theorem dX1_payPart_13 : decode cX1_payPart 13 = .ok (.invokestatic 123, 3) := by decide +kernel
theorem dX1_payPart_16 : decode cX1_payPart 16 = .ok (.pop, 1) := by decide +kernel
theorem dX1_payPart_17 : decode cX1_payPart 17 = .ok (.iload_n 2, 1) := by decide +kernel
theorem dX1_payPart_18 : decode cX1_payPart 18 = .ok (.aload_n 0, 1) := by decide +kernel
theorem dX1_payPart_19 : decode cX1_payPart 19 = .ok (.getfield 21, 3) := by decide +kernel
theorem dX1_payPart_22 : decode cX1_payPart 22 = .ok (.iload_n 3, 1) := by decide +kernel
theorem dX1_payPart_23 : decode cX1_payPart 23 = .ok (.invokevirtual 193, 3) := by decide +kernel
theorem dX1_payPart_26 : decode cX1_payPart 26 = .ok (.if_icmp .le 13, 3) := by decide +kernel
theorem dX1_payPart_29 : decode cX1_payPart 29 = .ok (.new 108, 3) := by decide +kernel
theorem dX1_payPart_32 : decode cX1_payPart 32 = .ok (.dup, 1) := by decide +kernel
theorem dX1_payPart_33 : decode cX1_payPart 33 = .ok (.ldc 196, 2) := by decide +kernel
theorem dX1_payPart_35 : decode cX1_payPart 35 = .ok (.invokespecial 112, 3) := by decide +kernel
theorem dX1_payPart_38 : decode cX1_payPart 38 = .ok (.athrow, 1) := by decide +kernel
theorem dX1_payPart_39 : decode cX1_payPart 39 = .ok (.aload_n 0, 1) := by decide +kernel
theorem dX1_payPart_40 : decode cX1_payPart 40 = .ok (.getfield 21, 3) := by decide +kernel
theorem dX1_payPart_43 : decode cX1_payPart 43 = .ok (.iload_n 3, 1) := by decide +kernel
theorem dX1_payPart_44 : decode cX1_payPart 44 = .ok (.invokevirtual 198, 3) := by decide +kernel
theorem dX1_payPart_47 : decode cX1_payPart 47 = .ok (.istore 4, 2) := by decide +kernel
theorem dX1_payPart_49 : decode cX1_payPart 49 = .ok (.aload_n 0, 1) := by decide +kernel
theorem dX1_payPart_50 : decode cX1_payPart 50 = .ok (.getfield 21, 3) := by decide +kernel
theorem dX1_payPart_53 : decode cX1_payPart 53 = .ok (.getfield 201, 3) := by decide +kernel
theorem dX1_payPart_56 : decode cX1_payPart 56 = .ok (.iload_n 3, 1) := by decide +kernel
theorem dX1_payPart_57 : decode cX1_payPart 57 = .ok (.dup2, 1) := by decide +kernel
theorem dX1_payPart_58 : decode cX1_payPart 58 = .ok (.iaload, 1) := by decide +kernel
theorem dX1_payPart_59 : decode cX1_payPart 59 = .ok (.iload_n 2, 1) := by decide +kernel
theorem dX1_payPart_60 : decode cX1_payPart 60 = .ok (.iadd, 1) := by decide +kernel
theorem dX1_payPart_61 : decode cX1_payPart 61 = .ok (.iastore, 1) := by decide +kernel
theorem dX1_payPart_62 : decode cX1_payPart 62 = .ok (.aload_n 0, 1) := by decide +kernel
theorem dX1_payPart_63 : decode cX1_payPart 63 = .ok (.getfield 21, 3) := by decide +kernel
theorem dX1_payPart_66 : decode cX1_payPart 66 = .ok (.iload_n 3, 1) := by decide +kernel
theorem dX1_payPart_67 : decode cX1_payPart 67 = .ok (.invokevirtual 198, 3) := by decide +kernel
theorem dX1_payPart_70 : decode cX1_payPart 70 = .ok (.iload 4, 2) := by decide +kernel
theorem dX1_payPart_72 : decode cX1_payPart 72 = .ok (.isub, 1) := by decide +kernel
theorem dX1_payPart_73 : decode cX1_payPart 73 = .ok (.istore 5, 2) := by decide +kernel
theorem dX1_payPart_75 : decode cX1_payPart 75 = .ok (.aload_n 0, 1) := by decide +kernel
theorem dX1_payPart_76 : decode cX1_payPart 76 = .ok (.getfield 35, 3) := by decide +kernel
theorem dX1_payPart_79 : decode cX1_payPart 79 = .ok (.aload_n 0, 1) := by decide +kernel
theorem dX1_payPart_80 : decode cX1_payPart 80 = .ok (.getfield 21, 3) := by decide +kernel
theorem dX1_payPart_83 : decode cX1_payPart 83 = .ok (.getfield 204, 3) := by decide +kernel
theorem dX1_payPart_86 : decode cX1_payPart 86 = .ok (.iload_n 3, 1) := by decide +kernel
theorem dX1_payPart_87 : decode cX1_payPart 87 = .ok (.iaload, 1) := by decide +kernel
theorem dX1_payPart_88 : decode cX1_payPart 88 = .ok (.aload_n 0, 1) := by decide +kernel
theorem dX1_payPart_89 : decode cX1_payPart 89 = .ok (.getfield 62, 3) := by decide +kernel
theorem dX1_payPart_92 : decode cX1_payPart 92 = .ok (.iload_n 2, 1) := by decide +kernel
theorem dX1_payPart_93 : decode cX1_payPart 93 = .ok (.invokevirtual 207, 3) := by decide +kernel
theorem dX1_payPart_96 : decode cX1_payPart 96 = .ok (.aload_n 0, 1) := by decide +kernel
theorem dX1_payPart_97 : decode cX1_payPart 97 = .ok (.dup, 1) := by decide +kernel
theorem dX1_payPart_98 : decode cX1_payPart 98 = .ok (.getfield 78, 3) := by decide +kernel
theorem dX1_payPart_101 : decode cX1_payPart 101 = .ok (.iload_n 2, 1) := by decide +kernel
theorem dX1_payPart_102 : decode cX1_payPart 102 = .ok (.iadd, 1) := by decide +kernel
theorem dX1_payPart_103 : decode cX1_payPart 103 = .ok (.putfield 78, 3) := by decide +kernel
theorem dX1_payPart_106 : decode cX1_payPart 106 = .ok (.aload_n 0, 1) := by decide +kernel
theorem dX1_payPart_107 : decode cX1_payPart 107 = .ok (.dup, 1) := by decide +kernel
theorem dX1_payPart_108 : decode cX1_payPart 108 = .ok (.getfield 81, 3) := by decide +kernel
theorem dX1_payPart_111 : decode cX1_payPart 111 = .ok (.iload 5, 2) := by decide +kernel
theorem dX1_payPart_113 : decode cX1_payPart 113 = .ok (.iadd, 1) := by decide +kernel
theorem dX1_payPart_114 : decode cX1_payPart 114 = .ok (.putfield 81, 3) := by decide +kernel
theorem dX1_payPart_117 : decode cX1_payPart 117 = .ok (.aload_n 0, 1) := by decide +kernel
theorem dX1_payPart_118 : decode cX1_payPart 118 = .ok (.dup, 1) := by decide +kernel
theorem dX1_payPart_119 : decode cX1_payPart 119 = .ok (.getfield 66, 3) := by decide +kernel
theorem dX1_payPart_122 : decode cX1_payPart 122 = .ok (.iload 5, 2) := by decide +kernel
theorem dX1_payPart_124 : decode cX1_payPart 124 = .ok (.iload_n 2, 1) := by decide +kernel
theorem dX1_payPart_125 : decode cX1_payPart 125 = .ok (.isub, 1) := by decide +kernel
theorem dX1_payPart_126 : decode cX1_payPart 126 = .ok (.iadd, 1) := by decide +kernel
theorem dX1_payPart_127 : decode cX1_payPart 127 = .ok (.putfield 66, 3) := by decide +kernel
theorem dX1_payPart_130 : decode cX1_payPart 130 = .ok (.iload 5, 2) := by decide +kernel
theorem dX1_payPart_132 : decode cX1_payPart 132 = .ok (.ireturn, 1) := by decide +kernel
theorem dX1_removePaidClaim_0 : decode cX1_removePaidClaim 0 = .ok (.aload_n 0, 1) := by decide +kernel
theorem dX1_removePaidClaim_1 : decode cX1_removePaidClaim 1 = .ok (.getfield 21, 3) := by decide +kernel
theorem dX1_removePaidClaim_4 : decode cX1_removePaidClaim 4 = .ok (.iload_n 1, 1) := by decide +kernel
theorem dX1_removePaidClaim_5 : decode cX1_removePaidClaim 5 = .ok (.invokevirtual 192, 3) := by decide +kernel
theorem dX1_removePaidClaim_8 : decode cX1_removePaidClaim 8 = .ok (.istore_n 2, 1) := by decide +kernel
theorem dX1_removePaidClaim_9 : decode cX1_removePaidClaim 9 = .ok (.aload_n 0, 1) := by decide +kernel
theorem dX1_removePaidClaim_10 : decode cX1_removePaidClaim 10 = .ok (.getfield 21, 3) := by decide +kernel
theorem dX1_removePaidClaim_13 : decode cX1_removePaidClaim 13 = .ok (.iload_n 2, 1) := by decide +kernel
theorem dX1_removePaidClaim_14 : decode cX1_removePaidClaim 14 = .ok (.invokevirtual 193, 3) := by decide +kernel
theorem dX1_removePaidClaim_17 : decode cX1_removePaidClaim 17 = .ok (.ifCond .le 13, 3) := by decide +kernel
theorem dX1_removePaidClaim_20 : decode cX1_removePaidClaim 20 = .ok (.new 108, 3) := by decide +kernel
theorem dX1_removePaidClaim_23 : decode cX1_removePaidClaim 23 = .ok (.dup, 1) := by decide +kernel
theorem dX1_removePaidClaim_24 : decode cX1_removePaidClaim 24 = .ok (.ldc 210, 2) := by decide +kernel
theorem dX1_removePaidClaim_26 : decode cX1_removePaidClaim 26 = .ok (.invokespecial 112, 3) := by decide +kernel
theorem dX1_removePaidClaim_29 : decode cX1_removePaidClaim 29 = .ok (.athrow, 1) := by decide +kernel
theorem dX1_removePaidClaim_30 : decode cX1_removePaidClaim 30 = .ok (.aload_n 0, 1) := by decide +kernel
theorem dX1_removePaidClaim_31 : decode cX1_removePaidClaim 31 = .ok (.getfield 21, 3) := by decide +kernel
theorem dX1_removePaidClaim_34 : decode cX1_removePaidClaim 34 = .ok (.getfield 212, 3) := by decide +kernel
theorem dX1_removePaidClaim_37 : decode cX1_removePaidClaim 37 = .ok (.iload_n 2, 1) := by decide +kernel
theorem dX1_removePaidClaim_38 : decode cX1_removePaidClaim 38 = .ok (.iaload, 1) := by decide +kernel
theorem dX1_removePaidClaim_39 : decode cX1_removePaidClaim 39 = .ok (.istore_n 3, 1) := by decide +kernel
theorem dX1_removePaidClaim_40 : decode cX1_removePaidClaim 40 = .ok (.aload_n 0, 1) := by decide +kernel
theorem dX1_removePaidClaim_41 : decode cX1_removePaidClaim 41 = .ok (.getfield 21, 3) := by decide +kernel
theorem dX1_removePaidClaim_44 : decode cX1_removePaidClaim 44 = .ok (.iload_n 2, 1) := by decide +kernel
theorem dX1_removePaidClaim_45 : decode cX1_removePaidClaim 45 = .ok (.invokevirtual 215, 3) := by decide +kernel
theorem dX1_removePaidClaim_48 : decode cX1_removePaidClaim 48 = .ok (.iload_n 3, 1) := by decide +kernel
theorem dX1_removePaidClaim_49 : decode cX1_removePaidClaim 49 = .ok (.ireturn, 1) := by decide +kernel
theorem dX1_removeUnpaidClaim_0 : decode cX1_removeUnpaidClaim 0 = .ok (.aload_n 0, 1) := by decide +kernel
theorem dX1_removeUnpaidClaim_1 : decode cX1_removeUnpaidClaim 1 = .ok (.getfield 21, 3) := by decide +kernel
theorem dX1_removeUnpaidClaim_4 : decode cX1_removeUnpaidClaim 4 = .ok (.iload_n 1, 1) := by decide +kernel
theorem dX1_removeUnpaidClaim_5 : decode cX1_removeUnpaidClaim 5 = .ok (.invokevirtual 192, 3) := by decide +kernel
theorem dX1_removeUnpaidClaim_8 : decode cX1_removeUnpaidClaim 8 = .ok (.istore_n 2, 1) := by decide +kernel
theorem dX1_removeUnpaidClaim_9 : decode cX1_removeUnpaidClaim 9 = .ok (.aload_n 0, 1) := by decide +kernel
theorem dX1_removeUnpaidClaim_10 : decode cX1_removeUnpaidClaim 10 = .ok (.getfield 21, 3) := by decide +kernel
theorem dX1_removeUnpaidClaim_13 : decode cX1_removeUnpaidClaim 13 = .ok (.getfield 201, 3) := by decide +kernel
theorem dX1_removeUnpaidClaim_16 : decode cX1_removeUnpaidClaim 16 = .ok (.iload_n 2, 1) := by decide +kernel
theorem dX1_removeUnpaidClaim_17 : decode cX1_removeUnpaidClaim 17 = .ok (.iaload, 1) := by decide +kernel
theorem dX1_removeUnpaidClaim_18 : decode cX1_removeUnpaidClaim 18 = .ok (.ifCond .le 13, 3) := by decide +kernel
theorem dX1_removeUnpaidClaim_21 : decode cX1_removeUnpaidClaim 21 = .ok (.new 108, 3) := by decide +kernel
theorem dX1_removeUnpaidClaim_24 : decode cX1_removeUnpaidClaim 24 = .ok (.dup, 1) := by decide +kernel
theorem dX1_removeUnpaidClaim_25 : decode cX1_removeUnpaidClaim 25 = .ok (.ldc 216, 2) := by decide +kernel
theorem dX1_removeUnpaidClaim_27 : decode cX1_removeUnpaidClaim 27 = .ok (.invokespecial 112, 3) := by decide +kernel
theorem dX1_removeUnpaidClaim_30 : decode cX1_removeUnpaidClaim 30 = .ok (.athrow, 1) := by decide +kernel
theorem dX1_removeUnpaidClaim_31 : decode cX1_removeUnpaidClaim 31 = .ok (.aload_n 0, 1) := by decide +kernel
theorem dX1_removeUnpaidClaim_32 : decode cX1_removeUnpaidClaim 32 = .ok (.getfield 21, 3) := by decide +kernel
theorem dX1_removeUnpaidClaim_35 : decode cX1_removeUnpaidClaim 35 = .ok (.getfield 212, 3) := by decide +kernel
theorem dX1_removeUnpaidClaim_38 : decode cX1_removeUnpaidClaim 38 = .ok (.iload_n 2, 1) := by decide +kernel
theorem dX1_removeUnpaidClaim_39 : decode cX1_removeUnpaidClaim 39 = .ok (.iaload, 1) := by decide +kernel
theorem dX1_removeUnpaidClaim_40 : decode cX1_removeUnpaidClaim 40 = .ok (.istore_n 3, 1) := by decide +kernel
theorem dX1_removeUnpaidClaim_41 : decode cX1_removeUnpaidClaim 41 = .ok (.aload_n 0, 1) := by decide +kernel
theorem dX1_removeUnpaidClaim_42 : decode cX1_removeUnpaidClaim 42 = .ok (.getfield 12, 3) := by decide +kernel
theorem dX1_removeUnpaidClaim_45 : decode cX1_removeUnpaidClaim 45 = .ok (.getfield 188, 3) := by decide +kernel
theorem dX1_removeUnpaidClaim_48 : decode cX1_removeUnpaidClaim 48 = .ok (.aload_n 0, 1) := by decide +kernel
theorem dX1_removeUnpaidClaim_49 : decode cX1_removeUnpaidClaim 49 = .ok (.getfield 12, 3) := by decide +kernel
theorem dX1_removeUnpaidClaim_52 : decode cX1_removeUnpaidClaim 52 = .ok (.aload_n 0, 1) := by decide +kernel
theorem dX1_removeUnpaidClaim_53 : decode cX1_removeUnpaidClaim 53 = .ok (.getfield 21, 3) := by decide +kernel
theorem dX1_removeUnpaidClaim_56 : decode cX1_removeUnpaidClaim 56 = .ok (.getfield 99, 3) := by decide +kernel
theorem dX1_removeUnpaidClaim_59 : decode cX1_removeUnpaidClaim 59 = .ok (.iload_n 2, 1) := by decide +kernel
theorem dX1_removeUnpaidClaim_60 : decode cX1_removeUnpaidClaim 60 = .ok (.iaload, 1) := by decide +kernel
theorem dX1_removeUnpaidClaim_61 : decode cX1_removeUnpaidClaim 61 = .ok (.invokevirtual 95, 3) := by decide +kernel
theorem dX1_removeUnpaidClaim_64 : decode cX1_removeUnpaidClaim 64 = .ok (.dup2, 1) := by decide +kernel
theorem dX1_removeUnpaidClaim_65 : decode cX1_removeUnpaidClaim 65 = .ok (.iaload, 1) := by decide +kernel
theorem dX1_removeUnpaidClaim_66 : decode cX1_removeUnpaidClaim 66 = .ok (.iload_n 3, 1) := by decide +kernel
theorem dX1_removeUnpaidClaim_67 : decode cX1_removeUnpaidClaim 67 = .ok (.isub, 1) := by decide +kernel
theorem dX1_removeUnpaidClaim_68 : decode cX1_removeUnpaidClaim 68 = .ok (.iastore, 1) := by decide +kernel
theorem dX1_removeUnpaidClaim_69 : decode cX1_removeUnpaidClaim 69 = .ok (.aload_n 0, 1) := by decide +kernel
theorem dX1_removeUnpaidClaim_70 : decode cX1_removeUnpaidClaim 70 = .ok (.getfield 28, 3) := by decide +kernel
theorem dX1_removeUnpaidClaim_73 : decode cX1_removeUnpaidClaim 73 = .ok (.aload_n 0, 1) := by decide +kernel
theorem dX1_removeUnpaidClaim_74 : decode cX1_removeUnpaidClaim 74 = .ok (.getfield 21, 3) := by decide +kernel
theorem dX1_removeUnpaidClaim_77 : decode cX1_removeUnpaidClaim 77 = .ok (.getfield 180, 3) := by decide +kernel
theorem dX1_removeUnpaidClaim_80 : decode cX1_removeUnpaidClaim 80 = .ok (.iload_n 2, 1) := by decide +kernel
theorem dX1_removeUnpaidClaim_81 : decode cX1_removeUnpaidClaim 81 = .ok (.aaload, 1) := by decide +kernel
theorem dX1_removeUnpaidClaim_82 : decode cX1_removeUnpaidClaim 82 = .ok (.invokevirtual 218, 3) := by decide +kernel
theorem dX1_removeUnpaidClaim_85 : decode cX1_removeUnpaidClaim 85 = .ok (.aload_n 0, 1) := by decide +kernel
theorem dX1_removeUnpaidClaim_86 : decode cX1_removeUnpaidClaim 86 = .ok (.getfield 21, 3) := by decide +kernel
theorem dX1_removeUnpaidClaim_89 : decode cX1_removeUnpaidClaim 89 = .ok (.iload_n 2, 1) := by decide +kernel
theorem dX1_removeUnpaidClaim_90 : decode cX1_removeUnpaidClaim 90 = .ok (.invokevirtual 215, 3) := by decide +kernel
theorem dX1_removeUnpaidClaim_93 : decode cX1_removeUnpaidClaim 93 = .ok (.iload_n 3, 1) := by decide +kernel
theorem dX1_removeUnpaidClaim_94 : decode cX1_removeUnpaidClaim 94 = .ok (.ireturn, 1) := by decide +kernel
theorem dX1_advance_0 : decode cX1_advance 0 = .ok (.aload_n 0, 1) := by decide +kernel
theorem dX1_advance_1 : decode cX1_advance 1 = .ok (.dup, 1) := by decide +kernel
theorem dX1_advance_2 : decode cX1_advance 2 = .ok (.getfield 62, 3) := by decide +kernel
theorem dX1_advance_5 : decode cX1_advance 5 = .ok (.iload_n 1, 1) := by decide +kernel
theorem dX1_advance_6 : decode cX1_advance 6 = .ok (.iconst 1, 1) := by decide +kernel
theorem dX1_advance_7 : decode cX1_advance 7 = .ok (.bipush 60, 2) := by decide +kernel
theorem dX1_advance_9 : decode cX1_advance 9 = .ok (.invokestatic 123, 3) := by decide +kernel
theorem dX1_advance_12 : decode cX1_advance 12 = .ok (.iadd, 1) := by decide +kernel
theorem dX1_advance_13 : decode cX1_advance 13 = .ok (.putfield 62, 3) := by decide +kernel
theorem dX1_advance_16 : decode cX1_advance 16 = .ok (.aload_n 0, 1) := by decide +kernel
theorem dX1_advance_17 : decode cX1_advance 17 = .ok (.getfield 62, 3) := by decide +kernel
theorem dX1_advance_20 : decode cX1_advance 20 = .ok (.ireturn, 1) := by decide +kernel
theorem dX1_latestPeriod_0 : decode cX1_latestPeriod 0 = .ok (.aload_n 0, 1) := by decide +kernel
theorem dX1_latestPeriod_1 : decode cX1_latestPeriod 1 = .ok (.getfield 62, 3) := by decide +kernel
theorem dX1_latestPeriod_4 : decode cX1_latestPeriod 4 = .ok (.bipush 10, 2) := by decide +kernel
theorem dX1_latestPeriod_6 : decode cX1_latestPeriod 6 = .ok (.idiv, 1) := by decide +kernel
theorem dX1_latestPeriod_7 : decode cX1_latestPeriod 7 = .ok (.iconst 5, 1) := by decide +kernel
theorem dX1_latestPeriod_8 : decode cX1_latestPeriod 8 = .ok (.invokestatic 167, 3) := by decide +kernel
theorem dX1_latestPeriod_11 : decode cX1_latestPeriod 11 = .ok (.ireturn, 1) := by decide +kernel
theorem dX1_isBalanced_0 : decode cX1_isBalanced 0 = .ok (.aload_n 0, 1) := by decide +kernel
theorem dX1_isBalanced_1 : decode cX1_isBalanced 1 = .ok (.getfield 66, 3) := by decide +kernel
theorem dX1_isBalanced_4 : decode cX1_isBalanced 4 = .ok (.aload_n 0, 1) := by decide +kernel
theorem dX1_isBalanced_5 : decode cX1_isBalanced 5 = .ok (.getfield 69, 3) := by decide +kernel
theorem dX1_isBalanced_8 : decode cX1_isBalanced 8 = .ok (.aload_n 0, 1) := by decide +kernel
theorem dX1_isBalanced_9 : decode cX1_isBalanced 9 = .ok (.getfield 72, 3) := by decide +kernel
theorem dX1_isBalanced_12 : decode cX1_isBalanced 12 = .ok (.isub, 1) := by decide +kernel
theorem dX1_isBalanced_13 : decode cX1_isBalanced 13 = .ok (.aload_n 0, 1) := by decide +kernel
theorem dX1_isBalanced_14 : decode cX1_isBalanced 14 = .ok (.getfield 75, 3) := by decide +kernel
theorem dX1_isBalanced_17 : decode cX1_isBalanced 17 = .ok (.isub, 1) := by decide +kernel
theorem dX1_isBalanced_18 : decode cX1_isBalanced 18 = .ok (.aload_n 0, 1) := by decide +kernel
theorem dX1_isBalanced_19 : decode cX1_isBalanced 19 = .ok (.getfield 78, 3) := by decide +kernel
theorem dX1_isBalanced_22 : decode cX1_isBalanced 22 = .ok (.isub, 1) := by decide +kernel
theorem dX1_isBalanced_23 : decode cX1_isBalanced 23 = .ok (.aload_n 0, 1) := by decide +kernel
theorem dX1_isBalanced_24 : decode cX1_isBalanced 24 = .ok (.getfield 81, 3) := by decide +kernel
theorem dX1_isBalanced_27 : decode cX1_isBalanced 27 = .ok (.iadd, 1) := by decide +kernel
theorem dX1_isBalanced_28 : decode cX1_isBalanced 28 = .ok (.if_icmp .ne 7, 3) := by decide +kernel
theorem dX1_isBalanced_31 : decode cX1_isBalanced 31 = .ok (.iconst 1, 1) := by decide +kernel
theorem dX1_isBalanced_32 : decode cX1_isBalanced 32 = .ok (.goto 4, 3) := by decide +kernel
theorem dX1_isBalanced_35 : decode cX1_isBalanced 35 = .ok (.iconst 0, 1) := by decide +kernel
theorem dX1_isBalanced_36 : decode cX1_isBalanced 36 = .ok (.ireturn, 1) := by decide +kernel
theorem dX1_keepsCapacities_0 : decode cX1_keepsCapacities 0 = .ok (.iconst 0, 1) := by decide +kernel
theorem dX1_keepsCapacities_1 : decode cX1_keepsCapacities 1 = .ok (.istore_n 1, 1) := by decide +kernel
theorem dX1_keepsCapacities_2 : decode cX1_keepsCapacities 2 = .ok (.iload_n 1, 1) := by decide +kernel
theorem dX1_keepsCapacities_3 : decode cX1_keepsCapacities 3 = .ok (.aload_n 0, 1) := by decide +kernel
theorem dX1_keepsCapacities_4 : decode cX1_keepsCapacities 4 = .ok (.getfield 28, 3) := by decide +kernel
theorem dX1_keepsCapacities_7 : decode cX1_keepsCapacities 7 = .ok (.getfield 132, 3) := by decide +kernel
theorem dX1_keepsCapacities_10 : decode cX1_keepsCapacities 10 = .ok (.if_icmp .ge 41, 3) := by decide +kernel
theorem dX1_keepsCapacities_13 : decode cX1_keepsCapacities 13 = .ok (.aload_n 0, 1) := by decide +kernel
theorem dX1_keepsCapacities_14 : decode cX1_keepsCapacities 14 = .ok (.getfield 28, 3) := by decide +kernel
theorem dX1_keepsCapacities_17 : decode cX1_keepsCapacities 17 = .ok (.getfield 129, 3) := by decide +kernel
theorem dX1_keepsCapacities_20 : decode cX1_keepsCapacities 20 = .ok (.iload_n 1, 1) := by decide +kernel
theorem dX1_keepsCapacities_21 : decode cX1_keepsCapacities 21 = .ok (.iaload, 1) := by decide +kernel
theorem dX1_keepsCapacities_22 : decode cX1_keepsCapacities 22 = .ok (.aload_n 0, 1) := by decide +kernel
theorem dX1_keepsCapacities_23 : decode cX1_keepsCapacities 23 = .ok (.getfield 21, 3) := by decide +kernel
theorem dX1_keepsCapacities_26 : decode cX1_keepsCapacities 26 = .ok (.iload_n 1, 1) := by decide +kernel
theorem dX1_keepsCapacities_27 : decode cX1_keepsCapacities 27 = .ok (.invokevirtual 136, 3) := by decide +kernel
theorem dX1_keepsCapacities_30 : decode cX1_keepsCapacities 30 = .ok (.iadd, 1) := by decide +kernel
theorem dX1_keepsCapacities_31 : decode cX1_keepsCapacities 31 = .ok (.aload_n 0, 1) := by decide +kernel
theorem dX1_keepsCapacities_32 : decode cX1_keepsCapacities 32 = .ok (.getfield 28, 3) := by decide +kernel
theorem dX1_keepsCapacities_35 : decode cX1_keepsCapacities 35 = .ok (.getfield 222, 3) := by decide +kernel
theorem dX1_keepsCapacities_38 : decode cX1_keepsCapacities 38 = .ok (.iload_n 1, 1) := by decide +kernel
theorem dX1_keepsCapacities_39 : decode cX1_keepsCapacities 39 = .ok (.iaload, 1) := by decide +kernel
theorem dX1_keepsCapacities_40 : decode cX1_keepsCapacities 40 = .ok (.if_icmp .le 5, 3) := by decide +kernel
theorem dX1_keepsCapacities_43 : decode cX1_keepsCapacities 43 = .ok (.iconst 0, 1) := by decide +kernel
theorem dX1_keepsCapacities_44 : decode cX1_keepsCapacities 44 = .ok (.ireturn, 1) := by decide +kernel
theorem dX1_keepsCapacities_45 : decode cX1_keepsCapacities 45 = .ok (.iinc 1 1, 3) := by decide +kernel
theorem dX1_keepsCapacities_48 : decode cX1_keepsCapacities 48 = .ok (.goto (-46), 3) := by decide +kernel
theorem dX1_keepsCapacities_51 : decode cX1_keepsCapacities 51 = .ok (.iconst 1, 1) := by decide +kernel
theorem dX1_keepsCapacities_52 : decode cX1_keepsCapacities 52 = .ok (.ireturn, 1) := by decide +kernel
theorem dX1_layersAgree_0 : decode cX1_layersAgree 0 = .ok (.iconst 1, 1) := by decide +kernel
theorem dX1_layersAgree_1 : decode cX1_layersAgree 1 = .ok (.istore_n 1, 1) := by decide +kernel
theorem dX1_layersAgree_2 : decode cX1_layersAgree 2 = .ok (.iload_n 1, 1) := by decide +kernel
theorem dX1_layersAgree_3 : decode cX1_layersAgree 3 = .ok (.bipush 30, 2) := by decide +kernel
theorem dX1_layersAgree_5 : decode cX1_layersAgree 5 = .ok (.if_icmp .gt 30, 3) := by decide +kernel
theorem dX1_layersAgree_8 : decode cX1_layersAgree 8 = .ok (.aload_n 0, 1) := by decide +kernel
theorem dX1_layersAgree_9 : decode cX1_layersAgree 9 = .ok (.getfield 28, 3) := by decide +kernel
theorem dX1_layersAgree_12 : decode cX1_layersAgree 12 = .ok (.iload_n 1, 1) := by decide +kernel
theorem dX1_layersAgree_13 : decode cX1_layersAgree 13 = .ok (.invokevirtual 225, 3) := by decide +kernel
theorem dX1_layersAgree_16 : decode cX1_layersAgree 16 = .ok (.aload_n 0, 1) := by decide +kernel
theorem dX1_layersAgree_17 : decode cX1_layersAgree 17 = .ok (.getfield 28, 3) := by decide +kernel
theorem dX1_layersAgree_20 : decode cX1_layersAgree 20 = .ok (.iload_n 1, 1) := by decide +kernel
theorem dX1_layersAgree_21 : decode cX1_layersAgree 21 = .ok (.invokevirtual 228, 3) := by decide +kernel
theorem dX1_layersAgree_24 : decode cX1_layersAgree 24 = .ok (.if_icmp .eq 5, 3) := by decide +kernel
theorem dX1_layersAgree_27 : decode cX1_layersAgree 27 = .ok (.iconst 0, 1) := by decide +kernel
theorem dX1_layersAgree_28 : decode cX1_layersAgree 28 = .ok (.ireturn, 1) := by decide +kernel
theorem dX1_layersAgree_29 : decode cX1_layersAgree 29 = .ok (.iinc 1 1, 3) := by decide +kernel
theorem dX1_layersAgree_32 : decode cX1_layersAgree 32 = .ok (.goto (-30), 3) := by decide +kernel
theorem dX1_layersAgree_35 : decode cX1_layersAgree 35 = .ok (.iconst 1, 1) := by decide +kernel
theorem dX1_layersAgree_36 : decode cX1_layersAgree 36 = .ok (.ireturn, 1) := by decide +kernel
theorem dX1_outcomesAgree_0 : decode cX1_outcomesAgree 0 = .ok (.aload_n 0, 1) := by decide +kernel
theorem dX1_outcomesAgree_1 : decode cX1_outcomesAgree 1 = .ok (.getfield 12, 3) := by decide +kernel
theorem dX1_outcomesAgree_4 : decode cX1_outcomesAgree 4 = .ok (.aload_n 0, 1) := by decide +kernel
theorem dX1_outcomesAgree_5 : decode cX1_outcomesAgree 5 = .ok (.getfield 62, 3) := by decide +kernel
theorem dX1_outcomesAgree_8 : decode cX1_outcomesAgree 8 = .ok (.invokevirtual 231, 3) := by decide +kernel
theorem dX1_outcomesAgree_11 : decode cX1_outcomesAgree 11 = .ok (.iconst 2, 1) := by decide +kernel
theorem dX1_outcomesAgree_12 : decode cX1_outcomesAgree 12 = .ok (.idiv, 1) := by decide +kernel
theorem dX1_outcomesAgree_13 : decode cX1_outcomesAgree 13 = .ok (.istore_n 1, 1) := by decide +kernel
theorem dX1_outcomesAgree_14 : decode cX1_outcomesAgree 14 = .ok (.aload_n 0, 1) := by decide +kernel
theorem dX1_outcomesAgree_15 : decode cX1_outcomesAgree 15 = .ok (.getfield 12, 3) := by decide +kernel
theorem dX1_outcomesAgree_18 : decode cX1_outcomesAgree 18 = .ok (.iload_n 1, 1) := by decide +kernel
theorem dX1_outcomesAgree_19 : decode cX1_outcomesAgree 19 = .ok (.aload_n 0, 1) := by decide +kernel
theorem dX1_outcomesAgree_20 : decode cX1_outcomesAgree 20 = .ok (.getfield 62, 3) := by decide +kernel
theorem dX1_outcomesAgree_23 : decode cX1_outcomesAgree 23 = .ok (.invokevirtual 234, 3) := by decide +kernel
theorem dX1_outcomesAgree_26 : decode cX1_outcomesAgree 26 = .ok (.aload_n 0, 1) := by decide +kernel
theorem dX1_outcomesAgree_27 : decode cX1_outcomesAgree 27 = .ok (.getfield 12, 3) := by decide +kernel
theorem dX1_outcomesAgree_30 : decode cX1_outcomesAgree 30 = .ok (.iload_n 1, 1) := by decide +kernel
theorem dX1_outcomesAgree_31 : decode cX1_outcomesAgree 31 = .ok (.aload_n 0, 1) := by decide +kernel
theorem dX1_outcomesAgree_32 : decode cX1_outcomesAgree 32 = .ok (.getfield 62, 3) := by decide +kernel
theorem dX1_outcomesAgree_35 : decode cX1_outcomesAgree 35 = .ok (.invokevirtual 238, 3) := by decide +kernel
theorem dX1_outcomesAgree_38 : decode cX1_outcomesAgree 38 = .ok (.lcmp, 1) := by decide +kernel
theorem dX1_outcomesAgree_39 : decode cX1_outcomesAgree 39 = .ok (.ifCond .ne 7, 3) := by decide +kernel
theorem dX1_outcomesAgree_42 : decode cX1_outcomesAgree 42 = .ok (.iconst 1, 1) := by decide +kernel
theorem dX1_outcomesAgree_43 : decode cX1_outcomesAgree 43 = .ok (.goto 4, 3) := by decide +kernel
theorem dX1_outcomesAgree_46 : decode cX1_outcomesAgree 46 = .ok (.iconst 0, 1) := by decide +kernel
theorem dX1_outcomesAgree_47 : decode cX1_outcomesAgree 47 = .ok (.ireturn, 1) := by decide +kernel
theorem dX1_projectionsAgree_0 : decode cX1_projectionsAgree 0 = .ok (.aload_n 0, 1) := by decide +kernel
theorem dX1_projectionsAgree_1 : decode cX1_projectionsAgree 1 = .ok (.invokevirtual 241, 3) := by decide +kernel
theorem dX1_projectionsAgree_4 : decode cX1_projectionsAgree 4 = .ok (.istore_n 1, 1) := by decide +kernel
theorem dX1_projectionsAgree_5 : decode cX1_projectionsAgree 5 = .ok (.iconst 0, 1) := by decide +kernel
theorem dX1_projectionsAgree_6 : decode cX1_projectionsAgree 6 = .ok (.istore_n 2, 1) := by decide +kernel
theorem dX1_projectionsAgree_7 : decode cX1_projectionsAgree 7 = .ok (.iload_n 2, 1) := by decide +kernel
theorem dX1_projectionsAgree_8 : decode cX1_projectionsAgree 8 = .ok (.iload_n 1, 1) := by decide +kernel
theorem dX1_projectionsAgree_9 : decode cX1_projectionsAgree 9 = .ok (.if_icmp .gt 32, 3) := by decide +kernel
theorem dX1_projectionsAgree_12 : decode cX1_projectionsAgree 12 = .ok (.aload_n 0, 1) := by decide +kernel
theorem dX1_projectionsAgree_13 : decode cX1_projectionsAgree 13 = .ok (.getfield 35, 3) := by decide +kernel
theorem dX1_projectionsAgree_16 : decode cX1_projectionsAgree 16 = .ok (.iload_n 2, 1) := by decide +kernel
theorem dX1_projectionsAgree_17 : decode cX1_projectionsAgree 17 = .ok (.iload_n 1, 1) := by decide +kernel
theorem dX1_projectionsAgree_18 : decode cX1_projectionsAgree 18 = .ok (.invokevirtual 245, 3) := by decide +kernel
theorem dX1_projectionsAgree_21 : decode cX1_projectionsAgree 21 = .ok (.aload_n 0, 1) := by decide +kernel
theorem dX1_projectionsAgree_22 : decode cX1_projectionsAgree 22 = .ok (.getfield 35, 3) := by decide +kernel
theorem dX1_projectionsAgree_25 : decode cX1_projectionsAgree 25 = .ok (.iload_n 2, 1) := by decide +kernel
theorem dX1_projectionsAgree_26 : decode cX1_projectionsAgree 26 = .ok (.iload_n 1, 1) := by decide +kernel
theorem dX1_projectionsAgree_27 : decode cX1_projectionsAgree 27 = .ok (.invokevirtual 248, 3) := by decide +kernel
theorem dX1_projectionsAgree_30 : decode cX1_projectionsAgree 30 = .ok (.if_icmp .eq 5, 3) := by decide +kernel
theorem dX1_projectionsAgree_33 : decode cX1_projectionsAgree 33 = .ok (.iconst 0, 1) := by decide +kernel
theorem dX1_projectionsAgree_34 : decode cX1_projectionsAgree 34 = .ok (.ireturn, 1) := by decide +kernel
theorem dX1_projectionsAgree_35 : decode cX1_projectionsAgree 35 = .ok (.iinc 2 1, 3) := by decide +kernel
theorem dX1_projectionsAgree_38 : decode cX1_projectionsAgree 38 = .ok (.goto (-31), 3) := by decide +kernel
theorem dX1_projectionsAgree_41 : decode cX1_projectionsAgree 41 = .ok (.iconst 1, 1) := by decide +kernel
theorem dX1_projectionsAgree_42 : decode cX1_projectionsAgree 42 = .ok (.ireturn, 1) := by decide +kernel
theorem dX1_coversAgree_0 : decode cX1_coversAgree 0 = .ok (.aload_n 0, 1) := by decide +kernel
theorem dX1_coversAgree_1 : decode cX1_coversAgree 1 = .ok (.getfield 42, 3) := by decide +kernel
theorem dX1_coversAgree_4 : decode cX1_coversAgree 4 = .ok (.iconst 0, 1) := by decide +kernel
theorem dX1_coversAgree_5 : decode cX1_coversAgree 5 = .ok (.bipush 9, 2) := by decide +kernel
theorem dX1_coversAgree_7 : decode cX1_coversAgree 7 = .ok (.invokevirtual 251, 3) := by decide +kernel
theorem dX1_coversAgree_10 : decode cX1_coversAgree 10 = .ok (.aload_n 0, 1) := by decide +kernel
theorem dX1_coversAgree_11 : decode cX1_coversAgree 11 = .ok (.getfield 42, 3) := by decide +kernel
theorem dX1_coversAgree_14 : decode cX1_coversAgree 14 = .ok (.iconst 0, 1) := by decide +kernel
theorem dX1_coversAgree_15 : decode cX1_coversAgree 15 = .ok (.bipush 9, 2) := by decide +kernel
theorem dX1_coversAgree_17 : decode cX1_coversAgree 17 = .ok (.invokevirtual 254, 3) := by decide +kernel
theorem dX1_coversAgree_20 : decode cX1_coversAgree 20 = .ok (.if_icmp .ne 7, 3) := by decide +kernel
theorem dX1_coversAgree_23 : decode cX1_coversAgree 23 = .ok (.iconst 1, 1) := by decide +kernel
theorem dX1_coversAgree_24 : decode cX1_coversAgree 24 = .ok (.goto 4, 3) := by decide +kernel
theorem dX1_coversAgree_27 : decode cX1_coversAgree 27 = .ok (.iconst 0, 1) := by decide +kernel
theorem dX1_coversAgree_28 : decode cX1_coversAgree 28 = .ok (.ireturn, 1) := by decide +kernel
theorem dX2_init_0 : decode cX2_init 0 = .ok (.aload_n 0, 1) := by decide +kernel
theorem dX2_init_1 : decode cX2_init 1 = .ok (.bipush 12, 2) := by decide +kernel
theorem dX2_init_3 : decode cX2_init 3 = .ok (.newarray .int, 2) := by decide +kernel
theorem dX2_init_5 : decode cX2_init 5 = .ok (.invokespecial 3, 3) := by decide +kernel
theorem dX2_init_8 : decode cX2_init 8 = .ok (.aload_n 0, 1) := by decide +kernel
theorem dX2_init_9 : decode cX2_init 9 = .ok (.bipush 12, 2) := by decide +kernel
theorem dX2_init_11 : decode cX2_init 11 = .ok (.newarray .int, 2) := by decide +kernel
theorem dX2_init_13 : decode cX2_init 13 = .ok (.putfield 9, 3) := by decide +kernel
theorem dX2_init_16 : decode cX2_init 16 = .ok (.aload_n 0, 1) := by decide +kernel
theorem dX2_init_17 : decode cX2_init 17 = .ok (.bipush 12, 2) := by decide +kernel
theorem dX2_init_19 : decode cX2_init 19 = .ok (.newarray .char, 2) := by decide +kernel
theorem dX2_init_21 : decode cX2_init 21 = .ok (.putfield 15, 3) := by decide +kernel
theorem dX2_init_24 : decode cX2_init 24 = .ok (.aload_n 0, 1) := by decide +kernel
theorem dX2_init_25 : decode cX2_init 25 = .ok (.bipush 12, 2) := by decide +kernel
theorem dX2_init_27 : decode cX2_init 27 = .ok (.newarray .int, 2) := by decide +kernel
theorem dX2_init_29 : decode cX2_init 29 = .ok (.putfield 19, 3) := by decide +kernel
theorem dX2_init_32 : decode cX2_init 32 = .ok (.aload_n 0, 1) := by decide +kernel
theorem dX2_init_33 : decode cX2_init 33 = .ok (.bipush 12, 2) := by decide +kernel
theorem dX2_init_35 : decode cX2_init 35 = .ok (.newarray .int, 2) := by decide +kernel
theorem dX2_init_37 : decode cX2_init 37 = .ok (.putfield 22, 3) := by decide +kernel
theorem dX2_init_40 : decode cX2_init 40 = .ok (.aload_n 0, 1) := by decide +kernel
theorem dX2_init_41 : decode cX2_init 41 = .ok (.bipush 12, 2) := by decide +kernel
theorem dX2_init_43 : decode cX2_init 43 = .ok (.newarray .int, 2) := by decide +kernel
theorem dX2_init_45 : decode cX2_init 45 = .ok (.putfield 25, 3) := by decide +kernel
theorem dX2_init_48 : decode cX2_init 48 = .ok (.aload_n 0, 1) := by decide +kernel
theorem dX2_init_49 : decode cX2_init 49 = .ok (.bipush 12, 2) := by decide +kernel
theorem dX2_init_51 : decode cX2_init 51 = .ok (.iconst 4, 1) := by decide +kernel
theorem dX2_init_52 : decode cX2_init 52 = .ok (.multianewarray 28 2, 4) := by decide +kernel
theorem dX2_init_56 : decode cX2_init 56 = .ok (.putfield 30, 3) := by decide +kernel
theorem dX2_init_59 : decode cX2_init 59 = .ok (.return_, 1) := by decide +kernel
theorem dX2_copyFrom_0 : decode cX2_copyFrom 0 = .ok (.aload_n 0, 1) := by decide +kernel
theorem dX2_copyFrom_1 : decode cX2_copyFrom 1 = .ok (.aload_n 1, 1) := by decide +kernel
theorem dX2_copyFrom_2 : decode cX2_copyFrom 2 = .ok (.invokevirtual 33, 3) := by decide +kernel
theorem dX2_copyFrom_5 : decode cX2_copyFrom 5 = .ok (.aload_n 1, 1) := by decide +kernel
theorem dX2_copyFrom_6 : decode cX2_copyFrom 6 = .ok (.getfield 9, 3) := by decide +kernel
theorem dX2_copyFrom_9 : decode cX2_copyFrom 9 = .ok (.aload_n 0, 1) := by decide +kernel
theorem dX2_copyFrom_10 : decode cX2_copyFrom 10 = .ok (.getfield 9, 3) := by decide +kernel
theorem dX2_copyFrom_13 : decode cX2_copyFrom 13 = .ok (.invokestatic 37, 3) := by decide +kernel
theorem dX2_copyFrom_16 : decode cX2_copyFrom 16 = .ok (.aload_n 1, 1) := by decide +kernel
theorem dX2_copyFrom_17 : decode cX2_copyFrom 17 = .ok (.getfield 19, 3) := by decide +kernel
theorem dX2_copyFrom_20 : decode cX2_copyFrom 20 = .ok (.aload_n 0, 1) := by decide +kernel
theorem dX2_copyFrom_21 : decode cX2_copyFrom 21 = .ok (.getfield 19, 3) := by decide +kernel
theorem dX2_copyFrom_24 : decode cX2_copyFrom 24 = .ok (.invokestatic 37, 3) := by decide +kernel
theorem dX2_copyFrom_27 : decode cX2_copyFrom 27 = .ok (.aload_n 1, 1) := by decide +kernel
theorem dX2_copyFrom_28 : decode cX2_copyFrom 28 = .ok (.getfield 22, 3) := by decide +kernel
theorem dX2_copyFrom_31 : decode cX2_copyFrom 31 = .ok (.aload_n 0, 1) := by decide +kernel
theorem dX2_copyFrom_32 : decode cX2_copyFrom 32 = .ok (.getfield 22, 3) := by decide +kernel
theorem dX2_copyFrom_35 : decode cX2_copyFrom 35 = .ok (.invokestatic 37, 3) := by decide +kernel
theorem dX2_copyFrom_38 : decode cX2_copyFrom 38 = .ok (.aload_n 1, 1) := by decide +kernel
theorem dX2_copyFrom_39 : decode cX2_copyFrom 39 = .ok (.getfield 25, 3) := by decide +kernel
theorem dX2_copyFrom_42 : decode cX2_copyFrom 42 = .ok (.aload_n 0, 1) := by decide +kernel
theorem dX2_copyFrom_43 : decode cX2_copyFrom 43 = .ok (.getfield 25, 3) := by decide +kernel
theorem dX2_copyFrom_46 : decode cX2_copyFrom 46 = .ok (.invokestatic 37, 3) := by decide +kernel
theorem dX2_copyFrom_49 : decode cX2_copyFrom 49 = .ok (.iconst 0, 1) := by decide +kernel
theorem dX2_copyFrom_50 : decode cX2_copyFrom 50 = .ok (.istore_n 2, 1) := by decide +kernel
theorem dX2_copyFrom_51 : decode cX2_copyFrom 51 = .ok (.iload_n 2, 1) := by decide +kernel
theorem dX2_copyFrom_52 : decode cX2_copyFrom 52 = .ok (.bipush 12, 2) := by decide +kernel
theorem dX2_copyFrom_54 : decode cX2_copyFrom 54 = .ok (.if_icmp .ge 36, 3) := by decide +kernel
theorem dX2_copyFrom_57 : decode cX2_copyFrom 57 = .ok (.aload_n 0, 1) := by decide +kernel
theorem dX2_copyFrom_58 : decode cX2_copyFrom 58 = .ok (.getfield 15, 3) := by decide +kernel
theorem dX2_copyFrom_61 : decode cX2_copyFrom 61 = .ok (.iload_n 2, 1) := by decide +kernel
theorem dX2_copyFrom_62 : decode cX2_copyFrom 62 = .ok (.aload_n 1, 1) := by decide +kernel
theorem dX2_copyFrom_63 : decode cX2_copyFrom 63 = .ok (.getfield 15, 3) := by decide +kernel
theorem dX2_copyFrom_66 : decode cX2_copyFrom 66 = .ok (.iload_n 2, 1) := by decide +kernel
theorem dX2_copyFrom_67 : decode cX2_copyFrom 67 = .ok (.caload, 1) := by decide +kernel
theorem dX2_copyFrom_68 : decode cX2_copyFrom 68 = .ok (.castore, 1) := by decide +kernel
theorem dX2_copyFrom_69 : decode cX2_copyFrom 69 = .ok (.aload_n 1, 1) := by decide +kernel
theorem dX2_copyFrom_70 : decode cX2_copyFrom 70 = .ok (.getfield 30, 3) := by decide +kernel
theorem dX2_copyFrom_73 : decode cX2_copyFrom 73 = .ok (.iload_n 2, 1) := by decide +kernel
theorem dX2_copyFrom_74 : decode cX2_copyFrom 74 = .ok (.aaload, 1) := by decide +kernel
theorem dX2_copyFrom_75 : decode cX2_copyFrom 75 = .ok (.aload_n 0, 1) := by decide +kernel
theorem dX2_copyFrom_76 : decode cX2_copyFrom 76 = .ok (.getfield 30, 3) := by decide +kernel
theorem dX2_copyFrom_79 : decode cX2_copyFrom 79 = .ok (.iload_n 2, 1) := by decide +kernel
theorem dX2_copyFrom_80 : decode cX2_copyFrom 80 = .ok (.aaload, 1) := by decide +kernel
theorem dX2_copyFrom_81 : decode cX2_copyFrom 81 = .ok (.invokestatic 37, 3) := by decide +kernel
theorem dX2_copyFrom_84 : decode cX2_copyFrom 84 = .ok (.iinc 2 1, 3) := by decide +kernel
theorem dX2_copyFrom_87 : decode cX2_copyFrom 87 = .ok (.goto (-36), 3) := by decide +kernel
theorem dX2_copyFrom_90 : decode cX2_copyFrom 90 = .ok (.return_, 1) := by decide +kernel
theorem dX2_add_0 : decode cX2_add 0 = .ok (.aload_n 0, 1) := by decide +kernel
theorem dX2_add_1 : decode cX2_add 1 = .ok (.invokevirtual 41, 3) := by decide +kernel
theorem dX2_add_4 : decode cX2_add 4 = .ok (.istore 5, 2) := by decide +kernel
theorem dX2_add_6 : decode cX2_add 6 = .ok (.aload_n 0, 1) := by decide +kernel
theorem dX2_add_7 : decode cX2_add 7 = .ok (.getfield 9, 3) := by decide +kernel
theorem dX2_add_10 : decode cX2_add 10 = .ok (.iload 5, 2) := by decide +kernel
theorem dX2_add_12 : decode cX2_add 12 = .ok (.iload_n 1, 1) := by decide +kernel
theorem dX2_add_13 : decode cX2_add 13 = .ok (.iastore, 1) := by decide +kernel
theorem dX2_add_14 : decode cX2_add 14 = .ok (.aload_n 0, 1) := by decide +kernel
theorem dX2_add_15 : decode cX2_add 15 = .ok (.getfield 15, 3) := by decide +kernel
theorem dX2_add_18 : decode cX2_add 18 = .ok (.iload 5, 2) := by decide +kernel
theorem dX2_add_20 : decode cX2_add 20 = .ok (.iload_n 2, 1) := by decide +kernel
theorem dX2_add_21 : decode cX2_add 21 = .ok (.castore, 1) := by decide +kernel
theorem dX2_add_22 : decode cX2_add 22 = .ok (.aload_n 0, 1) := by decide +kernel
theorem dX2_add_23 : decode cX2_add 23 = .ok (.getfield 19, 3) := by decide +kernel
theorem dX2_add_26 : decode cX2_add 26 = .ok (.iload 5, 2) := by decide +kernel
theorem dX2_add_28 : decode cX2_add 28 = .ok (.iload_n 3, 1) := by decide +kernel
theorem dX2_add_29 : decode cX2_add 29 = .ok (.iastore, 1) := by decide +kernel
theorem dX2_add_30 : decode cX2_add 30 = .ok (.aload_n 0, 1) := by decide +kernel
theorem dX2_add_31 : decode cX2_add 31 = .ok (.getfield 22, 3) := by decide +kernel
theorem dX2_add_34 : decode cX2_add 34 = .ok (.iload 5, 2) := by decide +kernel
theorem dX2_add_36 : decode cX2_add 36 = .ok (.iconst 0, 1) := by decide +kernel
theorem dX2_add_37 : decode cX2_add 37 = .ok (.iastore, 1) := by decide +kernel
theorem dX2_add_38 : decode cX2_add 38 = .ok (.aload_n 0, 1) := by decide +kernel
theorem dX2_add_39 : decode cX2_add 39 = .ok (.getfield 25, 3) := by decide +kernel
theorem dX2_add_42 : decode cX2_add 42 = .ok (.iload 5, 2) := by decide +kernel
theorem dX2_add_44 : decode cX2_add 44 = .ok (.iload 4, 2) := by decide +kernel
theorem dX2_add_46 : decode cX2_add 46 = .ok (.iastore, 1) := by decide +kernel
theorem dX2_add_47 : decode cX2_add 47 = .ok (.aload_n 0, 1) := by decide +kernel
theorem dX2_add_48 : decode cX2_add 48 = .ok (.getfield 30, 3) := by decide +kernel
theorem dX2_add_51 : decode cX2_add 51 = .ok (.iload 5, 2) := by decide +kernel
theorem dX2_add_53 : decode cX2_add 53 = .ok (.aaload, 1) := by decide +kernel
theorem dX2_add_54 : decode cX2_add 54 = .ok (.iconst 0, 1) := by decide +kernel
theorem dX2_add_55 : decode cX2_add 55 = .ok (.invokestatic 45, 3) := by decide +kernel
theorem dX2_add_58 : decode cX2_add 58 = .ok (.iload 5, 2) := by decide +kernel
theorem dX2_add_60 : decode cX2_add 60 = .ok (.ireturn, 1) := by decide +kernel
theorem dX2_remove_0 : decode cX2_remove 0 = .ok (.aload_n 0, 1) := by decide +kernel
theorem dX2_remove_1 : decode cX2_remove 1 = .ok (.iload_n 1, 1) := by decide +kernel
theorem dX2_remove_2 : decode cX2_remove 2 = .ok (.invokevirtual 51, 3) := by decide +kernel
theorem dX2_remove_5 : decode cX2_remove 5 = .ok (.aload_n 0, 1) := by decide +kernel
theorem dX2_remove_6 : decode cX2_remove 6 = .ok (.getfield 9, 3) := by decide +kernel
theorem dX2_remove_9 : decode cX2_remove 9 = .ok (.iload_n 1, 1) := by decide +kernel
theorem dX2_remove_10 : decode cX2_remove 10 = .ok (.invokestatic 55, 3) := by decide +kernel
theorem dX2_remove_13 : decode cX2_remove 13 = .ok (.aload_n 0, 1) := by decide +kernel
theorem dX2_remove_14 : decode cX2_remove 14 = .ok (.getfield 19, 3) := by decide +kernel
theorem dX2_remove_17 : decode cX2_remove 17 = .ok (.iload_n 1, 1) := by decide +kernel
theorem dX2_remove_18 : decode cX2_remove 18 = .ok (.invokestatic 55, 3) := by decide +kernel
theorem dX2_remove_21 : decode cX2_remove 21 = .ok (.aload_n 0, 1) := by decide +kernel
theorem dX2_remove_22 : decode cX2_remove 22 = .ok (.getfield 22, 3) := by decide +kernel
theorem dX2_remove_25 : decode cX2_remove 25 = .ok (.iload_n 1, 1) := by decide +kernel
theorem dX2_remove_26 : decode cX2_remove 26 = .ok (.invokestatic 55, 3) := by decide +kernel
theorem dX2_remove_29 : decode cX2_remove 29 = .ok (.aload_n 0, 1) := by decide +kernel
theorem dX2_remove_30 : decode cX2_remove 30 = .ok (.getfield 25, 3) := by decide +kernel
theorem dX2_remove_33 : decode cX2_remove 33 = .ok (.iload_n 1, 1) := by decide +kernel
theorem dX2_remove_34 : decode cX2_remove 34 = .ok (.invokestatic 55, 3) := by decide +kernel
theorem dX2_remove_37 : decode cX2_remove 37 = .ok (.iload_n 1, 1) := by decide +kernel
theorem dX2_remove_38 : decode cX2_remove 38 = .ok (.istore_n 2, 1) := by decide +kernel
theorem dX2_remove_39 : decode cX2_remove 39 = .ok (.iload_n 2, 1) := by decide +kernel
theorem dX2_remove_40 : decode cX2_remove 40 = .ok (.bipush 11, 2) := by decide +kernel
theorem dX2_remove_42 : decode cX2_remove 42 = .ok (.if_icmp .ge 40, 3) := by decide +kernel
theorem dX2_remove_45 : decode cX2_remove 45 = .ok (.aload_n 0, 1) := by decide +kernel
theorem dX2_remove_46 : decode cX2_remove 46 = .ok (.getfield 15, 3) := by decide +kernel
theorem dX2_remove_49 : decode cX2_remove 49 = .ok (.iload_n 2, 1) := by decide +kernel
theorem dX2_remove_50 : decode cX2_remove 50 = .ok (.aload_n 0, 1) := by decide +kernel
theorem dX2_remove_51 : decode cX2_remove 51 = .ok (.getfield 15, 3) := by decide +kernel
theorem dX2_remove_54 : decode cX2_remove 54 = .ok (.iload_n 2, 1) := by decide +kernel
theorem dX2_remove_55 : decode cX2_remove 55 = .ok (.iconst 1, 1) := by decide +kernel
theorem dX2_remove_56 : decode cX2_remove 56 = .ok (.iadd, 1) := by decide +kernel
theorem dX2_remove_57 : decode cX2_remove 57 = .ok (.caload, 1) := by decide +kernel
theorem dX2_remove_58 : decode cX2_remove 58 = .ok (.castore, 1) := by decide +kernel
theorem dX2_remove_59 : decode cX2_remove 59 = .ok (.aload_n 0, 1) := by decide +kernel
theorem dX2_remove_60 : decode cX2_remove 60 = .ok (.getfield 30, 3) := by decide +kernel
theorem dX2_remove_63 : decode cX2_remove 63 = .ok (.iload_n 2, 1) := by decide +kernel
theorem dX2_remove_64 : decode cX2_remove 64 = .ok (.iconst 1, 1) := by decide +kernel
theorem dX2_remove_65 : decode cX2_remove 65 = .ok (.iadd, 1) := by decide +kernel
theorem dX2_remove_66 : decode cX2_remove 66 = .ok (.aaload, 1) := by decide +kernel
theorem dX2_remove_67 : decode cX2_remove 67 = .ok (.aload_n 0, 1) := by decide +kernel
theorem dX2_remove_68 : decode cX2_remove 68 = .ok (.getfield 30, 3) := by decide +kernel
theorem dX2_remove_71 : decode cX2_remove 71 = .ok (.iload_n 2, 1) := by decide +kernel
theorem dX2_remove_72 : decode cX2_remove 72 = .ok (.aaload, 1) := by decide +kernel
theorem dX2_remove_73 : decode cX2_remove 73 = .ok (.invokestatic 37, 3) := by decide +kernel
theorem dX2_remove_76 : decode cX2_remove 76 = .ok (.iinc 2 1, 3) := by decide +kernel
theorem dX2_remove_79 : decode cX2_remove 79 = .ok (.goto (-40), 3) := by decide +kernel
theorem dX2_remove_82 : decode cX2_remove 82 = .ok (.return_, 1) := by decide +kernel
theorem dX2_unpaidAt_0 : decode cX2_unpaidAt 0 = .ok (.aload_n 0, 1) := by decide +kernel
theorem dX2_unpaidAt_1 : decode cX2_unpaidAt 1 = .ok (.getfield 19, 3) := by decide +kernel
theorem dX2_unpaidAt_4 : decode cX2_unpaidAt 4 = .ok (.iload_n 1, 1) := by decide +kernel
theorem dX2_unpaidAt_5 : decode cX2_unpaidAt 5 = .ok (.iaload, 1) := by decide +kernel
theorem dX2_unpaidAt_6 : decode cX2_unpaidAt 6 = .ok (.aload_n 0, 1) := by decide +kernel
theorem dX2_unpaidAt_7 : decode cX2_unpaidAt 7 = .ok (.getfield 22, 3) := by decide +kernel
theorem dX2_unpaidAt_10 : decode cX2_unpaidAt 10 = .ok (.iload_n 1, 1) := by decide +kernel
theorem dX2_unpaidAt_11 : decode cX2_unpaidAt 11 = .ok (.iaload, 1) := by decide +kernel
theorem dX2_unpaidAt_12 : decode cX2_unpaidAt 12 = .ok (.isub, 1) := by decide +kernel
theorem dX2_unpaidAt_13 : decode cX2_unpaidAt 13 = .ok (.ireturn, 1) := by decide +kernel
theorem dX2_ownPartAt_0 : decode cX2_ownPartAt 0 = .ok (.aload_n 0, 1) := by decide +kernel
theorem dX2_ownPartAt_1 : decode cX2_ownPartAt 1 = .ok (.getfield 19, 3) := by decide +kernel
theorem dX2_ownPartAt_4 : decode cX2_ownPartAt 4 = .ok (.iload_n 1, 1) := by decide +kernel
theorem dX2_ownPartAt_5 : decode cX2_ownPartAt 5 = .ok (.iaload, 1) := by decide +kernel
theorem dX2_ownPartAt_6 : decode cX2_ownPartAt 6 = .ok (.aload_n 0, 1) := by decide +kernel
theorem dX2_ownPartAt_7 : decode cX2_ownPartAt 7 = .ok (.getfield 30, 3) := by decide +kernel
theorem dX2_ownPartAt_10 : decode cX2_ownPartAt 10 = .ok (.iload_n 1, 1) := by decide +kernel
theorem dX2_ownPartAt_11 : decode cX2_ownPartAt 11 = .ok (.aaload, 1) := by decide +kernel
theorem dX2_ownPartAt_12 : decode cX2_ownPartAt 12 = .ok (.iconst 4, 1) := by decide +kernel
theorem dX2_ownPartAt_13 : decode cX2_ownPartAt 13 = .ok (.invokestatic 58, 3) := by decide +kernel
theorem dX2_ownPartAt_16 : decode cX2_ownPartAt 16 = .ok (.isub, 1) := by decide +kernel
theorem dX2_ownPartAt_17 : decode cX2_ownPartAt 17 = .ok (.ireturn, 1) := by decide +kernel
theorem dX2_recoveredAt_0 : decode cX2_recoveredAt 0 = .ok (.aload_n 0, 1) := by decide +kernel
theorem dX2_recoveredAt_1 : decode cX2_recoveredAt 1 = .ok (.getfield 19, 3) := by decide +kernel
theorem dX2_recoveredAt_4 : decode cX2_recoveredAt 4 = .ok (.iload_n 1, 1) := by decide +kernel
theorem dX2_recoveredAt_5 : decode cX2_recoveredAt 5 = .ok (.iaload, 1) := by decide +kernel
theorem dX2_recoveredAt_6 : decode cX2_recoveredAt 6 = .ok (.iconst 1, 1) := by decide +kernel
theorem dX2_recoveredAt_7 : decode cX2_recoveredAt 7 = .ok (.if_icmp .ge 5, 3) := by decide +kernel
theorem dX2_recoveredAt_10 : decode cX2_recoveredAt 10 = .ok (.iconst 0, 1) := by decide +kernel
theorem dX2_recoveredAt_11 : decode cX2_recoveredAt 11 = .ok (.ireturn, 1) := by decide +kernel
theorem dX2_recoveredAt_12 : decode cX2_recoveredAt 12 = .ok (.aload_n 0, 1) := by decide +kernel
theorem dX2_recoveredAt_13 : decode cX2_recoveredAt 13 = .ok (.getfield 30, 3) := by decide +kernel
theorem dX2_recoveredAt_16 : decode cX2_recoveredAt 16 = .ok (.iload_n 1, 1) := by decide +kernel
theorem dX2_recoveredAt_17 : decode cX2_recoveredAt 17 = .ok (.aaload, 1) := by decide +kernel
theorem dX2_recoveredAt_18 : decode cX2_recoveredAt 18 = .ok (.iconst 4, 1) := by decide +kernel
theorem dX2_recoveredAt_19 : decode cX2_recoveredAt 19 = .ok (.invokestatic 58, 3) := by decide +kernel
theorem dX2_recoveredAt_22 : decode cX2_recoveredAt 22 = .ok (.aload_n 0, 1) := by decide +kernel
theorem dX2_recoveredAt_23 : decode cX2_recoveredAt 23 = .ok (.getfield 22, 3) := by decide +kernel
theorem dX2_recoveredAt_26 : decode cX2_recoveredAt 26 = .ok (.iload_n 1, 1) := by decide +kernel
theorem dX2_recoveredAt_27 : decode cX2_recoveredAt 27 = .ok (.iaload, 1) := by decide +kernel
theorem dX2_recoveredAt_28 : decode cX2_recoveredAt 28 = .ok (.imul, 1) := by decide +kernel
theorem dX2_recoveredAt_29 : decode cX2_recoveredAt 29 = .ok (.aload_n 0, 1) := by decide +kernel
theorem dX2_recoveredAt_30 : decode cX2_recoveredAt 30 = .ok (.getfield 19, 3) := by decide +kernel
theorem dX2_recoveredAt_33 : decode cX2_recoveredAt 33 = .ok (.iload_n 1, 1) := by decide +kernel
theorem dX2_recoveredAt_34 : decode cX2_recoveredAt 34 = .ok (.iaload, 1) := by decide +kernel
theorem dX2_recoveredAt_35 : decode cX2_recoveredAt 35 = .ok (.idiv, 1) := by decide +kernel
theorem dX2_recoveredAt_36 : decode cX2_recoveredAt 36 = .ok (.ireturn, 1) := by decide +kernel
theorem dX2_coinsOf_0 : decode cX2_coinsOf 0 = .ok (.iconst 0, 1) := by decide +kernel
theorem dX2_coinsOf_1 : decode cX2_coinsOf 1 = .ok (.istore_n 2, 1) := by decide +kernel
theorem dX2_coinsOf_2 : decode cX2_coinsOf 2 = .ok (.iconst 0, 1) := by decide +kernel
theorem dX2_coinsOf_3 : decode cX2_coinsOf 3 = .ok (.istore_n 3, 1) := by decide +kernel
theorem dX2_coinsOf_4 : decode cX2_coinsOf 4 = .ok (.iload_n 3, 1) := by decide +kernel
theorem dX2_coinsOf_5 : decode cX2_coinsOf 5 = .ok (.aload_n 0, 1) := by decide +kernel
theorem dX2_coinsOf_6 : decode cX2_coinsOf 6 = .ok (.getfield 62, 3) := by decide +kernel
theorem dX2_coinsOf_9 : decode cX2_coinsOf 9 = .ok (.if_icmp .ge 20, 3) := by decide +kernel
theorem dX2_coinsOf_12 : decode cX2_coinsOf 12 = .ok (.iload_n 2, 1) := by decide +kernel
theorem dX2_coinsOf_13 : decode cX2_coinsOf 13 = .ok (.aload_n 0, 1) := by decide +kernel
theorem dX2_coinsOf_14 : decode cX2_coinsOf 14 = .ok (.getfield 30, 3) := by decide +kernel
theorem dX2_coinsOf_17 : decode cX2_coinsOf 17 = .ok (.iload_n 3, 1) := by decide +kernel
theorem dX2_coinsOf_18 : decode cX2_coinsOf 18 = .ok (.aaload, 1) := by decide +kernel
theorem dX2_coinsOf_19 : decode cX2_coinsOf 19 = .ok (.iload_n 1, 1) := by decide +kernel
theorem dX2_coinsOf_20 : decode cX2_coinsOf 20 = .ok (.iaload, 1) := by decide +kernel
theorem dX2_coinsOf_21 : decode cX2_coinsOf 21 = .ok (.iadd, 1) := by decide +kernel
theorem dX2_coinsOf_22 : decode cX2_coinsOf 22 = .ok (.istore_n 2, 1) := by decide +kernel
theorem dX2_coinsOf_23 : decode cX2_coinsOf 23 = .ok (.iinc 3 1, 3) := by decide +kernel
theorem dX2_coinsOf_26 : decode cX2_coinsOf 26 = .ok (.goto (-22), 3) := by decide +kernel
theorem dX2_coinsOf_29 : decode cX2_coinsOf 29 = .ok (.iload_n 2, 1) := by decide +kernel
theorem dX2_coinsOf_30 : decode cX2_coinsOf 30 = .ok (.ireturn, 1) := by decide +kernel
theorem dX2_forgetTreaty_0 : decode cX2_forgetTreaty 0 = .ok (.iconst 0, 1) := by decide +kernel
theorem dX2_forgetTreaty_1 : decode cX2_forgetTreaty 1 = .ok (.istore_n 2, 1) := by decide +kernel
theorem dX2_forgetTreaty_2 : decode cX2_forgetTreaty 2 = .ok (.iload_n 2, 1) := by decide +kernel
theorem dX2_forgetTreaty_3 : decode cX2_forgetTreaty 3 = .ok (.aload_n 0, 1) := by decide +kernel
theorem dX2_forgetTreaty_4 : decode cX2_forgetTreaty 4 = .ok (.getfield 62, 3) := by decide +kernel
theorem dX2_forgetTreaty_7 : decode cX2_forgetTreaty 7 = .ok (.if_icmp .ge 28, 3) := by decide +kernel
theorem dX2_forgetTreaty_10 : decode cX2_forgetTreaty 10 = .ok (.aload_n 0, 1) := by decide +kernel
theorem dX2_forgetTreaty_11 : decode cX2_forgetTreaty 11 = .ok (.getfield 30, 3) := by decide +kernel
theorem dX2_forgetTreaty_14 : decode cX2_forgetTreaty 14 = .ok (.iload_n 2, 1) := by decide +kernel
theorem dX2_forgetTreaty_15 : decode cX2_forgetTreaty 15 = .ok (.aaload, 1) := by decide +kernel
theorem dX2_forgetTreaty_16 : decode cX2_forgetTreaty 16 = .ok (.iload_n 1, 1) := by decide +kernel
theorem dX2_forgetTreaty_17 : decode cX2_forgetTreaty 17 = .ok (.invokestatic 55, 3) := by decide +kernel
theorem dX2_forgetTreaty_20 : decode cX2_forgetTreaty 20 = .ok (.aload_n 0, 1) := by decide +kernel
theorem dX2_forgetTreaty_21 : decode cX2_forgetTreaty 21 = .ok (.getfield 30, 3) := by decide +kernel
theorem dX2_forgetTreaty_24 : decode cX2_forgetTreaty 24 = .ok (.iload_n 2, 1) := by decide +kernel
theorem dX2_forgetTreaty_25 : decode cX2_forgetTreaty 25 = .ok (.aaload, 1) := by decide +kernel
theorem dX2_forgetTreaty_26 : decode cX2_forgetTreaty 26 = .ok (.iconst 3, 1) := by decide +kernel
theorem dX2_forgetTreaty_27 : decode cX2_forgetTreaty 27 = .ok (.iconst 0, 1) := by decide +kernel
theorem dX2_forgetTreaty_28 : decode cX2_forgetTreaty 28 = .ok (.iastore, 1) := by decide +kernel
theorem dX2_forgetTreaty_29 : decode cX2_forgetTreaty 29 = .ok (.iinc 2 1, 3) := by decide +kernel
theorem dX2_forgetTreaty_32 : decode cX2_forgetTreaty 32 = .ok (.goto (-30), 3) := by decide +kernel
theorem dX2_forgetTreaty_35 : decode cX2_forgetTreaty 35 = .ok (.return_, 1) := by decide +kernel
theorem dX2_isAhead_0 : decode cX2_isAhead 0 = .ok (.aload_n 0, 1) := by decide +kernel
theorem dX2_isAhead_1 : decode cX2_isAhead 1 = .ok (.iload_n 1, 1) := by decide +kernel
theorem dX2_isAhead_2 : decode cX2_isAhead 2 = .ok (.invokevirtual 66, 3) := by decide +kernel
theorem dX2_isAhead_5 : decode cX2_isAhead 5 = .ok (.aload_n 0, 1) := by decide +kernel
theorem dX2_isAhead_6 : decode cX2_isAhead 6 = .ok (.iload_n 2, 1) := by decide +kernel
theorem dX2_isAhead_7 : decode cX2_isAhead 7 = .ok (.invokevirtual 66, 3) := by decide +kernel
theorem dX2_isAhead_10 : decode cX2_isAhead 10 = .ok (.if_icmp .eq 22, 3) := by decide +kernel
theorem dX2_isAhead_13 : decode cX2_isAhead 13 = .ok (.aload_n 0, 1) := by decide +kernel
theorem dX2_isAhead_14 : decode cX2_isAhead 14 = .ok (.iload_n 1, 1) := by decide +kernel
theorem dX2_isAhead_15 : decode cX2_isAhead 15 = .ok (.invokevirtual 66, 3) := by decide +kernel
theorem dX2_isAhead_18 : decode cX2_isAhead 18 = .ok (.aload_n 0, 1) := by decide +kernel
theorem dX2_isAhead_19 : decode cX2_isAhead 19 = .ok (.iload_n 2, 1) := by decide +kernel
theorem dX2_isAhead_20 : decode cX2_isAhead 20 = .ok (.invokevirtual 66, 3) := by decide +kernel
theorem dX2_isAhead_23 : decode cX2_isAhead 23 = .ok (.if_icmp .le 7, 3) := by decide +kernel
theorem dX2_isAhead_26 : decode cX2_isAhead 26 = .ok (.iconst 1, 1) := by decide +kernel
theorem dX2_isAhead_27 : decode cX2_isAhead 27 = .ok (.goto 4, 3) := by decide +kernel
theorem dX2_isAhead_30 : decode cX2_isAhead 30 = .ok (.iconst 0, 1) := by decide +kernel
theorem dX2_isAhead_31 : decode cX2_isAhead 31 = .ok (.ireturn, 1) := by decide +kernel
theorem dX2_isAhead_32 : decode cX2_isAhead 32 = .ok (.aload_n 0, 1) := by decide +kernel
theorem dX2_isAhead_33 : decode cX2_isAhead 33 = .ok (.getfield 70, 3) := by decide +kernel
theorem dX2_isAhead_36 : decode cX2_isAhead 36 = .ok (.iload_n 1, 1) := by decide +kernel
theorem dX2_isAhead_37 : decode cX2_isAhead 37 = .ok (.iaload, 1) := by decide +kernel
theorem dX2_isAhead_38 : decode cX2_isAhead 38 = .ok (.aload_n 0, 1) := by decide +kernel
theorem dX2_isAhead_39 : decode cX2_isAhead 39 = .ok (.getfield 70, 3) := by decide +kernel
theorem dX2_isAhead_42 : decode cX2_isAhead 42 = .ok (.iload_n 2, 1) := by decide +kernel
theorem dX2_isAhead_43 : decode cX2_isAhead 43 = .ok (.iaload, 1) := by decide +kernel
theorem dX2_isAhead_44 : decode cX2_isAhead 44 = .ok (.if_icmp .ge 7, 3) := by decide +kernel
theorem dX2_isAhead_47 : decode cX2_isAhead 47 = .ok (.iconst 1, 1) := by decide +kernel
theorem dX2_isAhead_48 : decode cX2_isAhead 48 = .ok (.goto 4, 3) := by decide +kernel
theorem dX2_isAhead_51 : decode cX2_isAhead 51 = .ok (.iconst 0, 1) := by decide +kernel
theorem dX2_isAhead_52 : decode cX2_isAhead 52 = .ok (.ireturn, 1) := by decide +kernel
theorem dX3_init_0 : decode cX3_init 0 = .ok (.aload_n 0, 1) := by decide +kernel
theorem dX3_init_1 : decode cX3_init 1 = .ok (.invokespecial 3, 3) := by decide +kernel
theorem dX3_init_4 : decode cX3_init 4 = .ok (.aload_n 0, 1) := by decide +kernel
theorem dX3_init_5 : decode cX3_init 5 = .ok (.bipush 9, 2) := by decide +kernel
theorem dX3_init_7 : decode cX3_init 7 = .ok (.anewarray 9, 3) := by decide +kernel
theorem dX3_init_10 : decode cX3_init 10 = .ok (.putfield 11, 3) := by decide +kernel
theorem dX3_init_13 : decode cX3_init 13 = .ok (.iconst 0, 1) := by decide +kernel
theorem dX3_init_14 : decode cX3_init 14 = .ok (.istore_n 1, 1) := by decide +kernel
theorem dX3_init_15 : decode cX3_init 15 = .ok (.iload_n 1, 1) := by decide +kernel
theorem dX3_init_16 : decode cX3_init 16 = .ok (.bipush 9, 2) := by decide +kernel
theorem dX3_init_18 : decode cX3_init 18 = .ok (.if_icmp .ge 22, 3) := by decide +kernel
theorem dX3_init_21 : decode cX3_init 21 = .ok (.aload_n 0, 1) := by decide +kernel
theorem dX3_init_22 : decode cX3_init 22 = .ok (.getfield 11, 3) := by decide +kernel
theorem dX3_init_25 : decode cX3_init 25 = .ok (.iload_n 1, 1) := by decide +kernel
theorem dX3_init_26 : decode cX3_init 26 = .ok (.new 9, 3) := by decide +kernel
theorem dX3_init_29 : decode cX3_init 29 = .ok (.dup, 1) := by decide +kernel
theorem dX3_init_30 : decode cX3_init 30 = .ok (.invokespecial 17, 3) := by decide +kernel
theorem dX3_init_33 : decode cX3_init 33 = .ok (.aastore, 1) := by decide +kernel
theorem dX3_init_34 : decode cX3_init 34 = .ok (.iinc 1 1, 3) := by decide +kernel
theorem dX3_init_37 : decode cX3_init 37 = .ok (.goto (-22), 3) := by decide +kernel
theorem dX3_init_40 : decode cX3_init 40 = .ok (.return_, 1) := by decide +kernel
theorem dX3_spare_0 : decode cX3_spare 0 = .ok (.aload_n 0, 1) := by decide +kernel
theorem dX3_spare_1 : decode cX3_spare 1 = .ok (.getfield 11, 3) := by decide +kernel
theorem dX3_spare_4 : decode cX3_spare 4 = .ok (.aload_n 0, 1) := by decide +kernel
theorem dX3_spare_5 : decode cX3_spare 5 = .ok (.getfield 18, 3) := by decide +kernel
theorem dX3_spare_8 : decode cX3_spare 8 = .ok (.aload_n 0, 1) := by decide +kernel
theorem dX3_spare_9 : decode cX3_spare 9 = .ok (.getfield 22, 3) := by decide +kernel
theorem dX3_spare_12 : decode cX3_spare 12 = .ok (.iadd, 1) := by decide +kernel
theorem dX3_spare_13 : decode cX3_spare 13 = .ok (.bipush 9, 2) := by decide +kernel
theorem dX3_spare_15 : decode cX3_spare 15 = .ok (.invokestatic 25, 3) := by decide +kernel
theorem dX3_spare_18 : decode cX3_spare 18 = .ok (.aaload, 1) := by decide +kernel
theorem dX3_spare_19 : decode cX3_spare 19 = .ok (.areturn, 1) := by decide +kernel
theorem dX3_prepare_0 : decode cX3_prepare 0 = .ok (.aload_n 0, 1) := by decide +kernel
theorem dX3_prepare_1 : decode cX3_prepare 1 = .ok (.invokevirtual 31, 3) := by decide +kernel
theorem dX3_prepare_4 : decode cX3_prepare 4 = .ok (.aload_n 1, 1) := by decide +kernel
theorem dX3_prepare_5 : decode cX3_prepare 5 = .ok (.invokevirtual 35, 3) := by decide +kernel
theorem dX3_prepare_8 : decode cX3_prepare 8 = .ok (.return_, 1) := by decide +kernel
theorem dX3_keep_0 : decode cX3_keep 0 = .ok (.aload_n 0, 1) := by decide +kernel
theorem dX3_keep_1 : decode cX3_keep 1 = .ok (.getfield 22, 3) := by decide +kernel
theorem dX3_keep_4 : decode cX3_keep 4 = .ok (.bipush 8, 2) := by decide +kernel
theorem dX3_keep_6 : decode cX3_keep 6 = .ok (.if_icmp .ge 16, 3) := by decide +kernel
theorem dX3_keep_9 : decode cX3_keep 9 = .ok (.aload_n 0, 1) := by decide +kernel
theorem dX3_keep_10 : decode cX3_keep 10 = .ok (.dup, 1) := by decide +kernel
theorem dX3_keep_11 : decode cX3_keep 11 = .ok (.getfield 22, 3) := by decide +kernel
theorem dX3_keep_14 : decode cX3_keep 14 = .ok (.iconst 1, 1) := by decide +kernel
theorem dX3_keep_15 : decode cX3_keep 15 = .ok (.iadd, 1) := by decide +kernel
theorem dX3_keep_16 : decode cX3_keep 16 = .ok (.putfield 22, 3) := by decide +kernel
theorem dX3_keep_19 : decode cX3_keep 19 = .ok (.goto 18, 3) := by decide +kernel
theorem dX3_keep_22 : decode cX3_keep 22 = .ok (.aload_n 0, 1) := by decide +kernel
theorem dX3_keep_23 : decode cX3_keep 23 = .ok (.aload_n 0, 1) := by decide +kernel
theorem dX3_keep_24 : decode cX3_keep 24 = .ok (.getfield 18, 3) := by decide +kernel
theorem dX3_keep_27 : decode cX3_keep 27 = .ok (.iconst 1, 1) := by decide +kernel
theorem dX3_keep_28 : decode cX3_keep 28 = .ok (.iadd, 1) := by decide +kernel
theorem dX3_keep_29 : decode cX3_keep 29 = .ok (.bipush 9, 2) := by decide +kernel
theorem dX3_keep_31 : decode cX3_keep 31 = .ok (.invokestatic 25, 3) := by decide +kernel
theorem dX3_keep_34 : decode cX3_keep 34 = .ok (.putfield 18, 3) := by decide +kernel
theorem dX3_keep_37 : decode cX3_keep 37 = .ok (.return_, 1) := by decide +kernel
theorem dX3_bringBack_0 : decode cX3_bringBack 0 = .ok (.aload_n 1, 1) := by decide +kernel
theorem dX3_bringBack_1 : decode cX3_bringBack 1 = .ok (.aload_n 0, 1) := by decide +kernel
theorem dX3_bringBack_2 : decode cX3_bringBack 2 = .ok (.invokevirtual 31, 3) := by decide +kernel
theorem dX3_bringBack_5 : decode cX3_bringBack 5 = .ok (.invokevirtual 35, 3) := by decide +kernel
theorem dX3_bringBack_8 : decode cX3_bringBack 8 = .ok (.return_, 1) := by decide +kernel
theorem dX3_stepBack_0 : decode cX3_stepBack 0 = .ok (.aload_n 0, 1) := by decide +kernel
theorem dX3_stepBack_1 : decode cX3_stepBack 1 = .ok (.getfield 22, 3) := by decide +kernel
theorem dX3_stepBack_4 : decode cX3_stepBack 4 = .ok (.ifCond .ne 13, 3) := by decide +kernel
theorem dX3_stepBack_7 : decode cX3_stepBack 7 = .ok (.new 39, 3) := by decide +kernel
theorem dX3_stepBack_10 : decode cX3_stepBack 10 = .ok (.dup, 1) := by decide +kernel
theorem dX3_stepBack_11 : decode cX3_stepBack 11 = .ok (.ldc 41, 2) := by decide +kernel
theorem dX3_stepBack_13 : decode cX3_stepBack 13 = .ok (.invokespecial 43, 3) := by decide +kernel
theorem dX3_stepBack_16 : decode cX3_stepBack 16 = .ok (.athrow, 1) := by decide +kernel
theorem dX3_stepBack_17 : decode cX3_stepBack 17 = .ok (.aload_n 0, 1) := by decide +kernel
theorem dX3_stepBack_18 : decode cX3_stepBack 18 = .ok (.dup, 1) := by decide +kernel
theorem dX3_stepBack_19 : decode cX3_stepBack 19 = .ok (.getfield 22, 3) := by decide +kernel
theorem dX3_stepBack_22 : decode cX3_stepBack 22 = .ok (.iconst 1, 1) := by decide +kernel
theorem dX3_stepBack_23 : decode cX3_stepBack 23 = .ok (.isub, 1) := by decide +kernel
theorem dX3_stepBack_24 : decode cX3_stepBack 24 = .ok (.putfield 22, 3) := by decide +kernel
theorem dX3_stepBack_27 : decode cX3_stepBack 27 = .ok (.aload_n 0, 1) := by decide +kernel
theorem dX3_stepBack_28 : decode cX3_stepBack 28 = .ok (.aload_n 1, 1) := by decide +kernel
theorem dX3_stepBack_29 : decode cX3_stepBack 29 = .ok (.invokevirtual 46, 3) := by decide +kernel
theorem dX3_stepBack_32 : decode cX3_stepBack 32 = .ok (.aload_n 0, 1) := by decide +kernel
theorem dX3_stepBack_33 : decode cX3_stepBack 33 = .ok (.getfield 22, 3) := by decide +kernel
theorem dX3_stepBack_36 : decode cX3_stepBack 36 = .ok (.ireturn, 1) := by decide +kernel
theorem dX3_forget_0 : decode cX3_forget 0 = .ok (.aload_n 0, 1) := by decide +kernel
theorem dX3_forget_1 : decode cX3_forget 1 = .ok (.iconst 0, 1) := by decide +kernel
theorem dX3_forget_2 : decode cX3_forget 2 = .ok (.putfield 22, 3) := by decide +kernel
theorem dX3_forget_5 : decode cX3_forget 5 = .ok (.return_, 1) := by decide +kernel
theorem dX4_init_0 : decode cX4_init 0 = .ok (.aload_n 0, 1) := by decide +kernel
theorem dX4_init_1 : decode cX4_init 1 = .ok (.invokespecial 3, 3) := by decide +kernel
theorem dX4_init_4 : decode cX4_init 4 = .ok (.aload_n 0, 1) := by decide +kernel
theorem dX4_init_5 : decode cX4_init 5 = .ok (.bipush 8, 2) := by decide +kernel
theorem dX4_init_7 : decode cX4_init 7 = .ok (.newarray .int, 2) := by decide +kernel
theorem dX4_init_9 : decode cX4_init 9 = .ok (.putfield 9, 3) := by decide +kernel
theorem dX4_init_12 : decode cX4_init 12 = .ok (.aload_n 0, 1) := by decide +kernel
theorem dX4_init_13 : decode cX4_init 13 = .ok (.bipush 8, 2) := by decide +kernel
theorem dX4_init_15 : decode cX4_init 15 = .ok (.newarray .int, 2) := by decide +kernel
theorem dX4_init_17 : decode cX4_init 17 = .ok (.putfield 15, 3) := by decide +kernel
theorem dX4_init_20 : decode cX4_init 20 = .ok (.aload_n 0, 1) := by decide +kernel
theorem dX4_init_21 : decode cX4_init 21 = .ok (.bipush 8, 2) := by decide +kernel
theorem dX4_init_23 : decode cX4_init 23 = .ok (.newarray .int, 2) := by decide +kernel
theorem dX4_init_25 : decode cX4_init 25 = .ok (.putfield 18, 3) := by decide +kernel
theorem dX4_init_28 : decode cX4_init 28 = .ok (.aload_n 0, 1) := by decide +kernel
theorem dX4_init_29 : decode cX4_init 29 = .ok (.bipush 100, 2) := by decide +kernel
theorem dX4_init_31 : decode cX4_init 31 = .ok (.newarray .int, 2) := by decide +kernel
theorem dX4_init_33 : decode cX4_init 33 = .ok (.putfield 21, 3) := by decide +kernel
theorem dX4_init_36 : decode cX4_init 36 = .ok (.return_, 1) := by decide +kernel
theorem dX4_copyFrom_0 : decode cX4_copyFrom 0 = .ok (.aload_n 1, 1) := by decide +kernel
theorem dX4_copyFrom_1 : decode cX4_copyFrom 1 = .ok (.getfield 9, 3) := by decide +kernel
theorem dX4_copyFrom_4 : decode cX4_copyFrom 4 = .ok (.aload_n 0, 1) := by decide +kernel
theorem dX4_copyFrom_5 : decode cX4_copyFrom 5 = .ok (.getfield 9, 3) := by decide +kernel
theorem dX4_copyFrom_8 : decode cX4_copyFrom 8 = .ok (.invokestatic 24, 3) := by decide +kernel
theorem dX4_copyFrom_11 : decode cX4_copyFrom 11 = .ok (.aload_n 1, 1) := by decide +kernel
theorem dX4_copyFrom_12 : decode cX4_copyFrom 12 = .ok (.getfield 15, 3) := by decide +kernel
theorem dX4_copyFrom_15 : decode cX4_copyFrom 15 = .ok (.aload_n 0, 1) := by decide +kernel
theorem dX4_copyFrom_16 : decode cX4_copyFrom 16 = .ok (.getfield 15, 3) := by decide +kernel
theorem dX4_copyFrom_19 : decode cX4_copyFrom 19 = .ok (.invokestatic 24, 3) := by decide +kernel
theorem dX4_copyFrom_22 : decode cX4_copyFrom 22 = .ok (.aload_n 1, 1) := by decide +kernel
theorem dX4_copyFrom_23 : decode cX4_copyFrom 23 = .ok (.getfield 18, 3) := by decide +kernel
theorem dX4_copyFrom_26 : decode cX4_copyFrom 26 = .ok (.aload_n 0, 1) := by decide +kernel
theorem dX4_copyFrom_27 : decode cX4_copyFrom 27 = .ok (.getfield 18, 3) := by decide +kernel
theorem dX4_copyFrom_30 : decode cX4_copyFrom 30 = .ok (.invokestatic 24, 3) := by decide +kernel
theorem dX4_copyFrom_33 : decode cX4_copyFrom 33 = .ok (.aload_n 0, 1) := by decide +kernel
theorem dX4_copyFrom_34 : decode cX4_copyFrom 34 = .ok (.aload_n 1, 1) := by decide +kernel
theorem dX4_copyFrom_35 : decode cX4_copyFrom 35 = .ok (.getfield 28, 3) := by decide +kernel
theorem dX4_copyFrom_38 : decode cX4_copyFrom 38 = .ok (.putfield 28, 3) := by decide +kernel
theorem dX4_copyFrom_41 : decode cX4_copyFrom 41 = .ok (.return_, 1) := by decide +kernel
theorem dX4_add_0 : decode cX4_add 0 = .ok (.iload_n 2, 1) := by decide +kernel
theorem dX4_add_1 : decode cX4_add 1 = .ok (.iconst 0, 1) := by decide +kernel
theorem dX4_add_2 : decode cX4_add 2 = .ok (.bipush 99, 2) := by decide +kernel
theorem dX4_add_4 : decode cX4_add 4 = .ok (.invokestatic 32, 3) := by decide +kernel
theorem dX4_add_7 : decode cX4_add 7 = .ok (.pop, 1) := by decide +kernel
theorem dX4_add_8 : decode cX4_add 8 = .ok (.iload_n 1, 1) := by decide +kernel
theorem dX4_add_9 : decode cX4_add 9 = .ok (.iconst 0, 1) := by decide +kernel
theorem dX4_add_10 : decode cX4_add 10 = .ok (.iload_n 2, 1) := by decide +kernel
theorem dX4_add_11 : decode cX4_add 11 = .ok (.invokestatic 32, 3) := by decide +kernel
theorem dX4_add_14 : decode cX4_add 14 = .ok (.pop, 1) := by decide +kernel
theorem dX4_add_15 : decode cX4_add 15 = .ok (.iload_n 3, 1) := by decide +kernel
theorem dX4_add_16 : decode cX4_add 16 = .ok (.iconst 1, 1) := by decide +kernel
theorem dX4_add_17 : decode cX4_add 17 = .ok (.bipush 50, 2) := by decide +kernel
theorem dX4_add_19 : decode cX4_add 19 = .ok (.invokestatic 32, 3) := by decide +kernel
theorem dX4_add_22 : decode cX4_add 22 = .ok (.pop, 1) := by decide +kernel
theorem dX4_add_23 : decode cX4_add 23 = .ok (.aload_n 0, 1) := by decide +kernel
theorem dX4_add_24 : decode cX4_add 24 = .ok (.getfield 28, 3) := by decide +kernel
theorem dX4_add_27 : decode cX4_add 27 = .ok (.bipush 8, 2) := by decide +kernel
theorem dX4_add_29 : decode cX4_add 29 = .ok (.invokestatic 36, 3) := by decide +kernel
theorem dX4_add_32 : decode cX4_add 32 = .ok (.istore 4, 2) := by decide +kernel
theorem dX4_add_34 : decode cX4_add 34 = .ok (.aload_n 0, 1) := by decide +kernel
theorem dX4_add_35 : decode cX4_add 35 = .ok (.getfield 9, 3) := by decide +kernel
theorem dX4_add_38 : decode cX4_add 38 = .ok (.iload 4, 2) := by decide +kernel
theorem dX4_add_40 : decode cX4_add 40 = .ok (.iload_n 1, 1) := by decide +kernel
theorem dX4_add_41 : decode cX4_add 41 = .ok (.iastore, 1) := by decide +kernel
theorem dX4_add_42 : decode cX4_add 42 = .ok (.aload_n 0, 1) := by decide +kernel
theorem dX4_add_43 : decode cX4_add 43 = .ok (.getfield 15, 3) := by decide +kernel
theorem dX4_add_46 : decode cX4_add 46 = .ok (.iload 4, 2) := by decide +kernel
theorem dX4_add_48 : decode cX4_add 48 = .ok (.iload_n 2, 1) := by decide +kernel
theorem dX4_add_49 : decode cX4_add 49 = .ok (.iastore, 1) := by decide +kernel
theorem dX4_add_50 : decode cX4_add 50 = .ok (.aload_n 0, 1) := by decide +kernel
theorem dX4_add_51 : decode cX4_add 51 = .ok (.getfield 18, 3) := by decide +kernel
theorem dX4_add_54 : decode cX4_add 54 = .ok (.iload 4, 2) := by decide +kernel
theorem dX4_add_56 : decode cX4_add 56 = .ok (.iload_n 3, 1) := by decide +kernel
theorem dX4_add_57 : decode cX4_add 57 = .ok (.iastore, 1) := by decide +kernel
theorem dX4_add_58 : decode cX4_add 58 = .ok (.aload_n 0, 1) := by decide +kernel
theorem dX4_add_59 : decode cX4_add 59 = .ok (.dup, 1) := by decide +kernel
theorem dX4_add_60 : decode cX4_add 60 = .ok (.getfield 28, 3) := by decide +kernel
theorem dX4_add_63 : decode cX4_add 63 = .ok (.iconst 1, 1) := by decide +kernel
theorem dX4_add_64 : decode cX4_add 64 = .ok (.iadd, 1) := by decide +kernel
theorem dX4_add_65 : decode cX4_add 65 = .ok (.putfield 28, 3) := by decide +kernel
theorem dX4_add_68 : decode cX4_add 68 = .ok (.iload 4, 2) := by decide +kernel
theorem dX4_add_70 : decode cX4_add 70 = .ok (.ireturn, 1) := by decide +kernel
theorem dX4_remove_0 : decode cX4_remove 0 = .ok (.aload_n 0, 1) := by decide +kernel
theorem dX4_remove_1 : decode cX4_remove 1 = .ok (.getfield 18, 3) := by decide +kernel
theorem dX4_remove_4 : decode cX4_remove 4 = .ok (.iload_n 1, 1) := by decide +kernel
theorem dX4_remove_5 : decode cX4_remove 5 = .ok (.aload_n 0, 1) := by decide +kernel
theorem dX4_remove_6 : decode cX4_remove 6 = .ok (.getfield 28, 3) := by decide +kernel
theorem dX4_remove_9 : decode cX4_remove 9 = .ok (.invokestatic 40, 3) := by decide +kernel
theorem dX4_remove_12 : decode cX4_remove 12 = .ok (.iaload, 1) := by decide +kernel
theorem dX4_remove_13 : decode cX4_remove 13 = .ok (.istore_n 2, 1) := by decide +kernel
theorem dX4_remove_14 : decode cX4_remove 14 = .ok (.aload_n 0, 1) := by decide +kernel
theorem dX4_remove_15 : decode cX4_remove 15 = .ok (.getfield 9, 3) := by decide +kernel
theorem dX4_remove_18 : decode cX4_remove 18 = .ok (.iload_n 1, 1) := by decide +kernel
theorem dX4_remove_19 : decode cX4_remove 19 = .ok (.invokestatic 43, 3) := by decide +kernel
theorem dX4_remove_22 : decode cX4_remove 22 = .ok (.aload_n 0, 1) := by decide +kernel
theorem dX4_remove_23 : decode cX4_remove 23 = .ok (.getfield 15, 3) := by decide +kernel
theorem dX4_remove_26 : decode cX4_remove 26 = .ok (.iload_n 1, 1) := by decide +kernel
theorem dX4_remove_27 : decode cX4_remove 27 = .ok (.invokestatic 43, 3) := by decide +kernel
theorem dX4_remove_30 : decode cX4_remove 30 = .ok (.aload_n 0, 1) := by decide +kernel
theorem dX4_remove_31 : decode cX4_remove 31 = .ok (.getfield 18, 3) := by decide +kernel
theorem dX4_remove_34 : decode cX4_remove 34 = .ok (.iload_n 1, 1) := by decide +kernel
theorem dX4_remove_35 : decode cX4_remove 35 = .ok (.invokestatic 43, 3) := by decide +kernel
theorem dX4_remove_38 : decode cX4_remove 38 = .ok (.aload_n 0, 1) := by decide +kernel
theorem dX4_remove_39 : decode cX4_remove 39 = .ok (.dup, 1) := by decide +kernel
theorem dX4_remove_40 : decode cX4_remove 40 = .ok (.getfield 28, 3) := by decide +kernel
theorem dX4_remove_43 : decode cX4_remove 43 = .ok (.iconst 1, 1) := by decide +kernel
theorem dX4_remove_44 : decode cX4_remove 44 = .ok (.isub, 1) := by decide +kernel
theorem dX4_remove_45 : decode cX4_remove 45 = .ok (.putfield 28, 3) := by decide +kernel
theorem dX4_remove_48 : decode cX4_remove 48 = .ok (.iload_n 2, 1) := by decide +kernel
theorem dX4_remove_49 : decode cX4_remove 49 = .ok (.ireturn, 1) := by decide +kernel
theorem dX4_cheapestByDays_0 : decode cX4_cheapestByDays 0 = .ok (.iload_n 1, 1) := by decide +kernel
theorem dX4_cheapestByDays_1 : decode cX4_cheapestByDays 1 = .ok (.istore_n 3, 1) := by decide +kernel
theorem dX4_cheapestByDays_2 : decode cX4_cheapestByDays 2 = .ok (.iload_n 3, 1) := by decide +kernel
theorem dX4_cheapestByDays_3 : decode cX4_cheapestByDays 3 = .ok (.iload_n 2, 1) := by decide +kernel
theorem dX4_cheapestByDays_4 : decode cX4_cheapestByDays 4 = .ok (.if_icmp .gt 21, 3) := by decide +kernel
theorem dX4_cheapestByDays_7 : decode cX4_cheapestByDays 7 = .ok (.aload_n 0, 1) := by decide +kernel
theorem dX4_cheapestByDays_8 : decode cX4_cheapestByDays 8 = .ok (.getfield 21, 3) := by decide +kernel
theorem dX4_cheapestByDays_11 : decode cX4_cheapestByDays 11 = .ok (.iload_n 3, 1) := by decide +kernel
theorem dX4_cheapestByDays_12 : decode cX4_cheapestByDays 12 = .ok (.aload_n 0, 1) := by decide +kernel
theorem dX4_cheapestByDays_13 : decode cX4_cheapestByDays 13 = .ok (.iload_n 1, 1) := by decide +kernel
theorem dX4_cheapestByDays_14 : decode cX4_cheapestByDays 14 = .ok (.iload_n 3, 1) := by decide +kernel
theorem dX4_cheapestByDays_15 : decode cX4_cheapestByDays 15 = .ok (.invokevirtual 47, 3) := by decide +kernel
theorem dX4_cheapestByDays_18 : decode cX4_cheapestByDays 18 = .ok (.iastore, 1) := by decide +kernel
theorem dX4_cheapestByDays_19 : decode cX4_cheapestByDays 19 = .ok (.iinc 3 1, 3) := by decide +kernel
theorem dX4_cheapestByDays_22 : decode cX4_cheapestByDays 22 = .ok (.goto (-20), 3) := by decide +kernel
theorem dX4_cheapestByDays_25 : decode cX4_cheapestByDays 25 = .ok (.aload_n 0, 1) := by decide +kernel
theorem dX4_cheapestByDays_26 : decode cX4_cheapestByDays 26 = .ok (.getfield 21, 3) := by decide +kernel
theorem dX4_cheapestByDays_29 : decode cX4_cheapestByDays 29 = .ok (.iload_n 2, 1) := by decide +kernel
theorem dX4_cheapestByDays_30 : decode cX4_cheapestByDays 30 = .ok (.iaload, 1) := by decide +kernel
theorem dX4_cheapestByDays_31 : decode cX4_cheapestByDays 31 = .ok (.ireturn, 1) := by decide +kernel
theorem dX4_priceUntil_0 : decode cX4_priceUntil 0 = .ok (.sipush 1000, 3) := by decide +kernel
theorem dX4_priceUntil_3 : decode cX4_priceUntil 3 = .ok (.istore_n 3, 1) := by decide +kernel
theorem dX4_priceUntil_4 : decode cX4_priceUntil 4 = .ok (.iconst 0, 1) := by decide +kernel
theorem dX4_priceUntil_5 : decode cX4_priceUntil 5 = .ok (.istore 4, 2) := by decide +kernel
theorem dX4_priceUntil_7 : decode cX4_priceUntil 7 = .ok (.iload 4, 2) := by decide +kernel
theorem dX4_priceUntil_9 : decode cX4_priceUntil 9 = .ok (.aload_n 0, 1) := by decide +kernel
theorem dX4_priceUntil_10 : decode cX4_priceUntil 10 = .ok (.getfield 28, 3) := by decide +kernel
theorem dX4_priceUntil_13 : decode cX4_priceUntil 13 = .ok (.if_icmp .ge 77, 3) := by decide +kernel
theorem dX4_priceUntil_16 : decode cX4_priceUntil 16 = .ok (.aload_n 0, 1) := by decide +kernel
theorem dX4_priceUntil_17 : decode cX4_priceUntil 17 = .ok (.getfield 9, 3) := by decide +kernel
theorem dX4_priceUntil_20 : decode cX4_priceUntil 20 = .ok (.iload 4, 2) := by decide +kernel
theorem dX4_priceUntil_22 : decode cX4_priceUntil 22 = .ok (.iaload, 1) := by decide +kernel
theorem dX4_priceUntil_23 : decode cX4_priceUntil 23 = .ok (.iload_n 2, 1) := by decide +kernel
theorem dX4_priceUntil_24 : decode cX4_priceUntil 24 = .ok (.if_icmp .gt 60, 3) := by decide +kernel
theorem dX4_priceUntil_27 : decode cX4_priceUntil 27 = .ok (.iload_n 2, 1) := by decide +kernel
theorem dX4_priceUntil_28 : decode cX4_priceUntil 28 = .ok (.aload_n 0, 1) := by decide +kernel
theorem dX4_priceUntil_29 : decode cX4_priceUntil 29 = .ok (.getfield 15, 3) := by decide +kernel
theorem dX4_priceUntil_32 : decode cX4_priceUntil 32 = .ok (.iload 4, 2) := by decide +kernel
theorem dX4_priceUntil_34 : decode cX4_priceUntil 34 = .ok (.iaload, 1) := by decide +kernel
theorem dX4_priceUntil_35 : decode cX4_priceUntil 35 = .ok (.if_icmp .gt 49, 3) := by decide +kernel
theorem dX4_priceUntil_38 : decode cX4_priceUntil 38 = .ok (.aload_n 0, 1) := by decide +kernel
theorem dX4_priceUntil_39 : decode cX4_priceUntil 39 = .ok (.getfield 9, 3) := by decide +kernel
theorem dX4_priceUntil_42 : decode cX4_priceUntil 42 = .ok (.iload 4, 2) := by decide +kernel
theorem dX4_priceUntil_44 : decode cX4_priceUntil 44 = .ok (.iaload, 1) := by decide +kernel
theorem dX4_priceUntil_45 : decode cX4_priceUntil 45 = .ok (.iload_n 1, 1) := by decide +kernel
theorem dX4_priceUntil_46 : decode cX4_priceUntil 46 = .ok (.if_icmp .gt 7, 3) := by decide +kernel
theorem dX4_priceUntil_49 : decode cX4_priceUntil 49 = .ok (.iconst 0, 1) := by decide +kernel
theorem dX4_priceUntil_50 : decode cX4_priceUntil 50 = .ok (.goto 17, 3) := by decide +kernel
theorem dX4_priceUntil_53 : decode cX4_priceUntil 53 = .ok (.aload_n 0, 1) := by decide +kernel
theorem dX4_priceUntil_54 : decode cX4_priceUntil 54 = .ok (.getfield 21, 3) := by decide +kernel
theorem dX4_priceUntil_57 : decode cX4_priceUntil 57 = .ok (.aload_n 0, 1) := by decide +kernel
theorem dX4_priceUntil_58 : decode cX4_priceUntil 58 = .ok (.getfield 9, 3) := by decide +kernel
theorem dX4_priceUntil_61 : decode cX4_priceUntil 61 = .ok (.iload 4, 2) := by decide +kernel
theorem dX4_priceUntil_63 : decode cX4_priceUntil 63 = .ok (.iaload, 1) := by decide +kernel
theorem dX4_priceUntil_64 : decode cX4_priceUntil 64 = .ok (.iconst 1, 1) := by decide +kernel
theorem dX4_priceUntil_65 : decode cX4_priceUntil 65 = .ok (.isub, 1) := by decide +kernel
theorem dX4_priceUntil_66 : decode cX4_priceUntil 66 = .ok (.iaload, 1) := by decide +kernel
theorem dX4_priceUntil_67 : decode cX4_priceUntil 67 = .ok (.istore 5, 2) := by decide +kernel
theorem dX4_priceUntil_69 : decode cX4_priceUntil 69 = .ok (.iload_n 3, 1) := by decide +kernel
theorem dX4_priceUntil_70 : decode cX4_priceUntil 70 = .ok (.iload 5, 2) := by decide +kernel
theorem dX4_priceUntil_72 : decode cX4_priceUntil 72 = .ok (.aload_n 0, 1) := by decide +kernel
theorem dX4_priceUntil_73 : decode cX4_priceUntil 73 = .ok (.getfield 18, 3) := by decide +kernel
theorem dX4_priceUntil_76 : decode cX4_priceUntil 76 = .ok (.iload 4, 2) := by decide +kernel
theorem dX4_priceUntil_78 : decode cX4_priceUntil 78 = .ok (.iaload, 1) := by decide +kernel
theorem dX4_priceUntil_79 : decode cX4_priceUntil 79 = .ok (.iadd, 1) := by decide +kernel
theorem dX4_priceUntil_80 : decode cX4_priceUntil 80 = .ok (.invokestatic 50, 3) := by decide +kernel
theorem dX4_priceUntil_83 : decode cX4_priceUntil 83 = .ok (.istore_n 3, 1) := by decide +kernel
theorem dX4_priceUntil_84 : decode cX4_priceUntil 84 = .ok (.iinc 4 1, 3) := by decide +kernel
theorem dX4_priceUntil_87 : decode cX4_priceUntil 87 = .ok (.goto (-80), 3) := by decide +kernel
theorem dX4_priceUntil_90 : decode cX4_priceUntil 90 = .ok (.iload_n 3, 1) := by decide +kernel
theorem dX4_priceUntil_91 : decode cX4_priceUntil 91 = .ok (.ireturn, 1) := by decide +kernel
theorem dX4_cheapestBySets_0 : decode cX4_cheapestBySets 0 = .ok (.sipush 1000, 3) := by decide +kernel
theorem dX4_cheapestBySets_3 : decode cX4_cheapestBySets 3 = .ok (.istore_n 3, 1) := by decide +kernel
theorem dX4_cheapestBySets_4 : decode cX4_cheapestBySets 4 = .ok (.iconst 0, 1) := by decide +kernel
theorem dX4_cheapestBySets_5 : decode cX4_cheapestBySets 5 = .ok (.istore 4, 2) := by decide +kernel
theorem dX4_cheapestBySets_7 : decode cX4_cheapestBySets 7 = .ok (.iload 4, 2) := by decide +kernel
theorem dX4_cheapestBySets_9 : decode cX4_cheapestBySets 9 = .ok (.iconst 1, 1) := by decide +kernel
theorem dX4_cheapestBySets_10 : decode cX4_cheapestBySets 10 = .ok (.aload_n 0, 1) := by decide +kernel
theorem dX4_cheapestBySets_11 : decode cX4_cheapestBySets 11 = .ok (.getfield 28, 3) := by decide +kernel
theorem dX4_cheapestBySets_14 : decode cX4_cheapestBySets 14 = .ok (.ishl, 1) := by decide +kernel
theorem dX4_cheapestBySets_15 : decode cX4_cheapestBySets 15 = .ok (.if_icmp .ge 31, 3) := by decide +kernel
theorem dX4_cheapestBySets_18 : decode cX4_cheapestBySets 18 = .ok (.aload_n 0, 1) := by decide +kernel
theorem dX4_cheapestBySets_19 : decode cX4_cheapestBySets 19 = .ok (.iload 4, 2) := by decide +kernel
theorem dX4_cheapestBySets_21 : decode cX4_cheapestBySets 21 = .ok (.iload_n 1, 1) := by decide +kernel
theorem dX4_cheapestBySets_22 : decode cX4_cheapestBySets 22 = .ok (.iload_n 2, 1) := by decide +kernel
theorem dX4_cheapestBySets_23 : decode cX4_cheapestBySets 23 = .ok (.invokevirtual 55, 3) := by decide +kernel
theorem dX4_cheapestBySets_26 : decode cX4_cheapestBySets 26 = .ok (.ifCond .eq 14, 3) := by decide +kernel
theorem dX4_cheapestBySets_29 : decode cX4_cheapestBySets 29 = .ok (.iload_n 3, 1) := by decide +kernel
theorem dX4_cheapestBySets_30 : decode cX4_cheapestBySets 30 = .ok (.aload_n 0, 1) := by decide +kernel
theorem dX4_cheapestBySets_31 : decode cX4_cheapestBySets 31 = .ok (.iload 4, 2) := by decide +kernel
theorem dX4_cheapestBySets_33 : decode cX4_cheapestBySets 33 = .ok (.invokevirtual 59, 3) := by decide +kernel
theorem dX4_cheapestBySets_36 : decode cX4_cheapestBySets 36 = .ok (.invokestatic 50, 3) := by decide +kernel
theorem dX4_cheapestBySets_39 : decode cX4_cheapestBySets 39 = .ok (.istore_n 3, 1) := by decide +kernel
theorem dX4_cheapestBySets_40 : decode cX4_cheapestBySets 40 = .ok (.iinc 4 1, 3) := by decide +kernel
theorem dX4_cheapestBySets_43 : decode cX4_cheapestBySets 43 = .ok (.goto (-36), 3) := by decide +kernel
theorem dX4_cheapestBySets_46 : decode cX4_cheapestBySets 46 = .ok (.iload_n 3, 1) := by decide +kernel
theorem dX4_cheapestBySets_47 : decode cX4_cheapestBySets 47 = .ok (.ireturn, 1) := by decide +kernel
theorem dX4_priceOfSet_0 : decode cX4_priceOfSet 0 = .ok (.iconst 0, 1) := by decide +kernel
theorem dX4_priceOfSet_1 : decode cX4_priceOfSet 1 = .ok (.istore_n 2, 1) := by decide +kernel
theorem dX4_priceOfSet_2 : decode cX4_priceOfSet 2 = .ok (.iconst 0, 1) := by decide +kernel
theorem dX4_priceOfSet_3 : decode cX4_priceOfSet 3 = .ok (.istore_n 3, 1) := by decide +kernel
theorem dX4_priceOfSet_4 : decode cX4_priceOfSet 4 = .ok (.iload_n 3, 1) := by decide +kernel
theorem dX4_priceOfSet_5 : decode cX4_priceOfSet 5 = .ok (.aload_n 0, 1) := by decide +kernel
theorem dX4_priceOfSet_6 : decode cX4_priceOfSet 6 = .ok (.getfield 28, 3) := by decide +kernel
theorem dX4_priceOfSet_9 : decode cX4_priceOfSet 9 = .ok (.if_icmp .ge 27, 3) := by decide +kernel
theorem dX4_priceOfSet_12 : decode cX4_priceOfSet 12 = .ok (.iload_n 1, 1) := by decide +kernel
theorem dX4_priceOfSet_13 : decode cX4_priceOfSet 13 = .ok (.iload_n 3, 1) := by decide +kernel
theorem dX4_priceOfSet_14 : decode cX4_priceOfSet 14 = .ok (.ishr, 1) := by decide +kernel
theorem dX4_priceOfSet_15 : decode cX4_priceOfSet 15 = .ok (.iconst 1, 1) := by decide +kernel
theorem dX4_priceOfSet_16 : decode cX4_priceOfSet 16 = .ok (.iand, 1) := by decide +kernel
theorem dX4_priceOfSet_17 : decode cX4_priceOfSet 17 = .ok (.iconst 1, 1) := by decide +kernel
theorem dX4_priceOfSet_18 : decode cX4_priceOfSet 18 = .ok (.if_icmp .ne 12, 3) := by decide +kernel
theorem dX4_priceOfSet_21 : decode cX4_priceOfSet 21 = .ok (.iload_n 2, 1) := by decide +kernel
theorem dX4_priceOfSet_22 : decode cX4_priceOfSet 22 = .ok (.aload_n 0, 1) := by decide +kernel
theorem dX4_priceOfSet_23 : decode cX4_priceOfSet 23 = .ok (.getfield 18, 3) := by decide +kernel
theorem dX4_priceOfSet_26 : decode cX4_priceOfSet 26 = .ok (.iload_n 3, 1) := by decide +kernel
theorem dX4_priceOfSet_27 : decode cX4_priceOfSet 27 = .ok (.iaload, 1) := by decide +kernel
theorem dX4_priceOfSet_28 : decode cX4_priceOfSet 28 = .ok (.iadd, 1) := by decide +kernel
theorem dX4_priceOfSet_29 : decode cX4_priceOfSet 29 = .ok (.istore_n 2, 1) := by decide +kernel
theorem dX4_priceOfSet_30 : decode cX4_priceOfSet 30 = .ok (.iinc 3 1, 3) := by decide +kernel
theorem dX4_priceOfSet_33 : decode cX4_priceOfSet 33 = .ok (.goto (-29), 3) := by decide +kernel
theorem dX4_priceOfSet_36 : decode cX4_priceOfSet 36 = .ok (.iload_n 2, 1) := by decide +kernel
theorem dX4_priceOfSet_37 : decode cX4_priceOfSet 37 = .ok (.ireturn, 1) := by decide +kernel
theorem dX4_isCover_0 : decode cX4_isCover 0 = .ok (.iload_n 2, 1) := by decide +kernel
theorem dX4_isCover_1 : decode cX4_isCover 1 = .ok (.istore 4, 2) := by decide +kernel
theorem dX4_isCover_3 : decode cX4_isCover 3 = .ok (.iconst 0, 1) := by decide +kernel
theorem dX4_isCover_4 : decode cX4_isCover 4 = .ok (.istore 5, 2) := by decide +kernel
theorem dX4_isCover_6 : decode cX4_isCover 6 = .ok (.iload 5, 2) := by decide +kernel
theorem dX4_isCover_8 : decode cX4_isCover 8 = .ok (.aload_n 0, 1) := by decide +kernel
theorem dX4_isCover_9 : decode cX4_isCover 9 = .ok (.getfield 28, 3) := by decide +kernel
theorem dX4_isCover_12 : decode cX4_isCover 12 = .ok (.if_icmp .ge 24, 3) := by decide +kernel
theorem dX4_isCover_15 : decode cX4_isCover 15 = .ok (.iload 4, 2) := by decide +kernel
theorem dX4_isCover_17 : decode cX4_isCover 17 = .ok (.iload_n 3, 1) := by decide +kernel
theorem dX4_isCover_18 : decode cX4_isCover 18 = .ok (.if_icmp .gt 18, 3) := by decide +kernel
theorem dX4_isCover_21 : decode cX4_isCover 21 = .ok (.aload_n 0, 1) := by decide +kernel
theorem dX4_isCover_22 : decode cX4_isCover 22 = .ok (.iload_n 1, 1) := by decide +kernel
theorem dX4_isCover_23 : decode cX4_isCover 23 = .ok (.iload 4, 2) := by decide +kernel
theorem dX4_isCover_25 : decode cX4_isCover 25 = .ok (.invokevirtual 63, 3) := by decide +kernel
theorem dX4_isCover_28 : decode cX4_isCover 28 = .ok (.istore 4, 2) := by decide +kernel
theorem dX4_isCover_30 : decode cX4_isCover 30 = .ok (.iinc 5 1, 3) := by decide +kernel
theorem dX4_isCover_33 : decode cX4_isCover 33 = .ok (.goto (-27), 3) := by decide +kernel
theorem dX4_isCover_36 : decode cX4_isCover 36 = .ok (.iload 4, 2) := by decide +kernel
theorem dX4_isCover_38 : decode cX4_isCover 38 = .ok (.iload_n 3, 1) := by decide +kernel
theorem dX4_isCover_39 : decode cX4_isCover 39 = .ok (.if_icmp .le 7, 3) := by decide +kernel
theorem dX4_isCover_42 : decode cX4_isCover 42 = .ok (.iconst 1, 1) := by decide +kernel
theorem dX4_isCover_43 : decode cX4_isCover 43 = .ok (.goto 4, 3) := by decide +kernel
theorem dX4_isCover_46 : decode cX4_isCover 46 = .ok (.iconst 0, 1) := by decide +kernel
theorem dX4_isCover_47 : decode cX4_isCover 47 = .ok (.ireturn, 1) := by decide +kernel
theorem dX4_dayAfter_0 : decode cX4_dayAfter 0 = .ok (.iload_n 2, 1) := by decide +kernel
theorem dX4_dayAfter_1 : decode cX4_dayAfter 1 = .ok (.istore_n 3, 1) := by decide +kernel
theorem dX4_dayAfter_2 : decode cX4_dayAfter 2 = .ok (.iconst 0, 1) := by decide +kernel
theorem dX4_dayAfter_3 : decode cX4_dayAfter 3 = .ok (.istore 4, 2) := by decide +kernel
theorem dX4_dayAfter_5 : decode cX4_dayAfter 5 = .ok (.iload 4, 2) := by decide +kernel
theorem dX4_dayAfter_7 : decode cX4_dayAfter 7 = .ok (.aload_n 0, 1) := by decide +kernel
theorem dX4_dayAfter_8 : decode cX4_dayAfter 8 = .ok (.getfield 28, 3) := by decide +kernel
theorem dX4_dayAfter_11 : decode cX4_dayAfter 11 = .ok (.if_icmp .ge 44, 3) := by decide +kernel
theorem dX4_dayAfter_14 : decode cX4_dayAfter 14 = .ok (.iload_n 1, 1) := by decide +kernel
theorem dX4_dayAfter_15 : decode cX4_dayAfter 15 = .ok (.iload 4, 2) := by decide +kernel
theorem dX4_dayAfter_17 : decode cX4_dayAfter 17 = .ok (.ishr, 1) := by decide +kernel
theorem dX4_dayAfter_18 : decode cX4_dayAfter 18 = .ok (.iconst 1, 1) := by decide +kernel
theorem dX4_dayAfter_19 : decode cX4_dayAfter 19 = .ok (.iand, 1) := by decide +kernel
theorem dX4_dayAfter_20 : decode cX4_dayAfter 20 = .ok (.iconst 1, 1) := by decide +kernel
theorem dX4_dayAfter_21 : decode cX4_dayAfter 21 = .ok (.if_icmp .ne 28, 3) := by decide +kernel
theorem dX4_dayAfter_24 : decode cX4_dayAfter 24 = .ok (.aload_n 0, 1) := by decide +kernel
theorem dX4_dayAfter_25 : decode cX4_dayAfter 25 = .ok (.getfield 9, 3) := by decide +kernel
theorem dX4_dayAfter_28 : decode cX4_dayAfter 28 = .ok (.iload 4, 2) := by decide +kernel
theorem dX4_dayAfter_30 : decode cX4_dayAfter 30 = .ok (.iaload, 1) := by decide +kernel
theorem dX4_dayAfter_31 : decode cX4_dayAfter 31 = .ok (.iload_n 2, 1) := by decide +kernel
theorem dX4_dayAfter_32 : decode cX4_dayAfter 32 = .ok (.if_icmp .gt 17, 3) := by decide +kernel
theorem dX4_dayAfter_35 : decode cX4_dayAfter 35 = .ok (.iload_n 3, 1) := by decide +kernel
theorem dX4_dayAfter_36 : decode cX4_dayAfter 36 = .ok (.aload_n 0, 1) := by decide +kernel
theorem dX4_dayAfter_37 : decode cX4_dayAfter 37 = .ok (.getfield 15, 3) := by decide +kernel
theorem dX4_dayAfter_40 : decode cX4_dayAfter 40 = .ok (.iload 4, 2) := by decide +kernel
theorem dX4_dayAfter_42 : decode cX4_dayAfter 42 = .ok (.iaload, 1) := by decide +kernel
theorem dX4_dayAfter_43 : decode cX4_dayAfter 43 = .ok (.iconst 1, 1) := by decide +kernel
theorem dX4_dayAfter_44 : decode cX4_dayAfter 44 = .ok (.iadd, 1) := by decide +kernel
theorem dX4_dayAfter_45 : decode cX4_dayAfter 45 = .ok (.invokestatic 66, 3) := by decide +kernel
theorem dX4_dayAfter_48 : decode cX4_dayAfter 48 = .ok (.istore_n 3, 1) := by decide +kernel
theorem dX4_dayAfter_49 : decode cX4_dayAfter 49 = .ok (.iinc 4 1, 3) := by decide +kernel
theorem dX4_dayAfter_52 : decode cX4_dayAfter 52 = .ok (.goto (-47), 3) := by decide +kernel
theorem dX4_dayAfter_55 : decode cX4_dayAfter 55 = .ok (.iload_n 3, 1) := by decide +kernel
theorem dX4_dayAfter_56 : decode cX4_dayAfter 56 = .ok (.ireturn, 1) := by decide +kernel
theorem dX5_init_0 : decode cX5_init 0 = .ok (.aload_n 0, 1) := by decide +kernel
theorem dX5_init_1 : decode cX5_init 1 = .ok (.bipush 8, 2) := by decide +kernel
theorem dX5_init_3 : decode cX5_init 3 = .ok (.newarray .int, 2) := by decide +kernel
theorem dX5_init_5 : decode cX5_init 5 = .ok (.invokespecial 3, 3) := by decide +kernel
theorem dX5_init_8 : decode cX5_init 8 = .ok (.aload_n 0, 1) := by decide +kernel
theorem dX5_init_9 : decode cX5_init 9 = .ok (.bipush 8, 2) := by decide +kernel
theorem dX5_init_11 : decode cX5_init 11 = .ok (.newarray .int, 2) := by decide +kernel
theorem dX5_init_13 : decode cX5_init 13 = .ok (.putfield 9, 3) := by decide +kernel
theorem dX5_init_16 : decode cX5_init 16 = .ok (.aload_n 0, 1) := by decide +kernel
theorem dX5_init_17 : decode cX5_init 17 = .ok (.bipush 8, 2) := by decide +kernel
theorem dX5_init_19 : decode cX5_init 19 = .ok (.newarray .int, 2) := by decide +kernel
theorem dX5_init_21 : decode cX5_init 21 = .ok (.putfield 15, 3) := by decide +kernel
theorem dX5_init_24 : decode cX5_init 24 = .ok (.aload_n 0, 1) := by decide +kernel
theorem dX5_init_25 : decode cX5_init 25 = .ok (.bipush 8, 2) := by decide +kernel
theorem dX5_init_27 : decode cX5_init 27 = .ok (.newarray .int, 2) := by decide +kernel
theorem dX5_init_29 : decode cX5_init 29 = .ok (.putfield 18, 3) := by decide +kernel
theorem dX5_init_32 : decode cX5_init 32 = .ok (.aload_n 0, 1) := by decide +kernel
theorem dX5_init_33 : decode cX5_init 33 = .ok (.bipush 8, 2) := by decide +kernel
theorem dX5_init_35 : decode cX5_init 35 = .ok (.newarray .int, 2) := by decide +kernel
theorem dX5_init_37 : decode cX5_init 37 = .ok (.putfield 21, 3) := by decide +kernel
theorem dX5_init_40 : decode cX5_init 40 = .ok (.aload_n 0, 1) := by decide +kernel
theorem dX5_init_41 : decode cX5_init 41 = .ok (.bipush 8, 2) := by decide +kernel
theorem dX5_init_43 : decode cX5_init 43 = .ok (.newarray .int, 2) := by decide +kernel
theorem dX5_init_45 : decode cX5_init 45 = .ok (.putfield 24, 3) := by decide +kernel
theorem dX5_init_48 : decode cX5_init 48 = .ok (.aload_n 0, 1) := by decide +kernel
theorem dX5_init_49 : decode cX5_init 49 = .ok (.bipush 8, 2) := by decide +kernel
theorem dX5_init_51 : decode cX5_init 51 = .ok (.newarray .int, 2) := by decide +kernel
theorem dX5_init_53 : decode cX5_init 53 = .ok (.putfield 27, 3) := by decide +kernel
theorem dX5_init_56 : decode cX5_init 56 = .ok (.aload_n 0, 1) := by decide +kernel
theorem dX5_init_57 : decode cX5_init 57 = .ok (.sipush 241, 3) := by decide +kernel
theorem dX5_init_60 : decode cX5_init 60 = .ok (.newarray .long, 2) := by decide +kernel
theorem dX5_init_62 : decode cX5_init 62 = .ok (.putfield 30, 3) := by decide +kernel
theorem dX5_init_65 : decode cX5_init 65 = .ok (.return_, 1) := by decide +kernel
theorem dX5_copyFrom_0 : decode cX5_copyFrom 0 = .ok (.aload_n 0, 1) := by decide +kernel
theorem dX5_copyFrom_1 : decode cX5_copyFrom 1 = .ok (.aload_n 1, 1) := by decide +kernel
theorem dX5_copyFrom_2 : decode cX5_copyFrom 2 = .ok (.invokevirtual 34, 3) := by decide +kernel
theorem dX5_copyFrom_5 : decode cX5_copyFrom 5 = .ok (.aload_n 1, 1) := by decide +kernel
theorem dX5_copyFrom_6 : decode cX5_copyFrom 6 = .ok (.getfield 9, 3) := by decide +kernel
theorem dX5_copyFrom_9 : decode cX5_copyFrom 9 = .ok (.aload_n 0, 1) := by decide +kernel
theorem dX5_copyFrom_10 : decode cX5_copyFrom 10 = .ok (.getfield 9, 3) := by decide +kernel
theorem dX5_copyFrom_13 : decode cX5_copyFrom 13 = .ok (.invokestatic 38, 3) := by decide +kernel
theorem dX5_copyFrom_16 : decode cX5_copyFrom 16 = .ok (.aload_n 1, 1) := by decide +kernel
theorem dX5_copyFrom_17 : decode cX5_copyFrom 17 = .ok (.getfield 15, 3) := by decide +kernel
theorem dX5_copyFrom_20 : decode cX5_copyFrom 20 = .ok (.aload_n 0, 1) := by decide +kernel
theorem dX5_copyFrom_21 : decode cX5_copyFrom 21 = .ok (.getfield 15, 3) := by decide +kernel
theorem dX5_copyFrom_24 : decode cX5_copyFrom 24 = .ok (.invokestatic 38, 3) := by decide +kernel
theorem dX5_copyFrom_27 : decode cX5_copyFrom 27 = .ok (.aload_n 1, 1) := by decide +kernel
theorem dX5_copyFrom_28 : decode cX5_copyFrom 28 = .ok (.getfield 18, 3) := by decide +kernel
theorem dX5_copyFrom_31 : decode cX5_copyFrom 31 = .ok (.aload_n 0, 1) := by decide +kernel
theorem dX5_copyFrom_32 : decode cX5_copyFrom 32 = .ok (.getfield 18, 3) := by decide +kernel
theorem dX5_copyFrom_35 : decode cX5_copyFrom 35 = .ok (.invokestatic 38, 3) := by decide +kernel
theorem dX5_copyFrom_38 : decode cX5_copyFrom 38 = .ok (.aload_n 1, 1) := by decide +kernel
theorem dX5_copyFrom_39 : decode cX5_copyFrom 39 = .ok (.getfield 21, 3) := by decide +kernel
theorem dX5_copyFrom_42 : decode cX5_copyFrom 42 = .ok (.aload_n 0, 1) := by decide +kernel
theorem dX5_copyFrom_43 : decode cX5_copyFrom 43 = .ok (.getfield 21, 3) := by decide +kernel
theorem dX5_copyFrom_46 : decode cX5_copyFrom 46 = .ok (.invokestatic 38, 3) := by decide +kernel
theorem dX5_copyFrom_49 : decode cX5_copyFrom 49 = .ok (.aload_n 1, 1) := by decide +kernel
theorem dX5_copyFrom_50 : decode cX5_copyFrom 50 = .ok (.getfield 24, 3) := by decide +kernel
theorem dX5_copyFrom_53 : decode cX5_copyFrom 53 = .ok (.aload_n 0, 1) := by decide +kernel
theorem dX5_copyFrom_54 : decode cX5_copyFrom 54 = .ok (.getfield 24, 3) := by decide +kernel
theorem dX5_copyFrom_57 : decode cX5_copyFrom 57 = .ok (.invokestatic 38, 3) := by decide +kernel
theorem dX5_copyFrom_60 : decode cX5_copyFrom 60 = .ok (.aload_n 1, 1) := by decide +kernel
theorem dX5_copyFrom_61 : decode cX5_copyFrom 61 = .ok (.getfield 27, 3) := by decide +kernel
theorem dX5_copyFrom_64 : decode cX5_copyFrom 64 = .ok (.aload_n 0, 1) := by decide +kernel
theorem dX5_copyFrom_65 : decode cX5_copyFrom 65 = .ok (.getfield 27, 3) := by decide +kernel
theorem dX5_copyFrom_68 : decode cX5_copyFrom 68 = .ok (.invokestatic 38, 3) := by decide +kernel
theorem dX5_copyFrom_71 : decode cX5_copyFrom 71 = .ok (.return_, 1) := by decide +kernel
theorem dX5_add_0 : decode cX5_add 0 = .ok (.iload_n 1, 1) := by decide +kernel
theorem dX5_add_1 : decode cX5_add 1 = .ok (.iconst 1, 1) := by decide +kernel
theorem dX5_add_2 : decode cX5_add 2 = .ok (.bipush 30, 2) := by decide +kernel
theorem dX5_add_4 : decode cX5_add 4 = .ok (.invokestatic 42, 3) := by decide +kernel
theorem dX5_add_7 : decode cX5_add 7 = .ok (.pop, 1) := by decide +kernel
theorem dX5_add_8 : decode cX5_add 8 = .ok (.iload_n 2, 1) := by decide +kernel
theorem dX5_add_9 : decode cX5_add 9 = .ok (.iconst 0, 1) := by decide +kernel
theorem dX5_add_10 : decode cX5_add 10 = .ok (.bipush 8, 2) := by decide +kernel
theorem dX5_add_12 : decode cX5_add 12 = .ok (.invokestatic 42, 3) := by decide +kernel
theorem dX5_add_15 : decode cX5_add 15 = .ok (.pop, 1) := by decide +kernel
theorem dX5_add_16 : decode cX5_add 16 = .ok (.iload_n 3, 1) := by decide +kernel
theorem dX5_add_17 : decode cX5_add 17 = .ok (.iconst 1, 1) := by decide +kernel
theorem dX5_add_18 : decode cX5_add 18 = .ok (.bipush 60, 2) := by decide +kernel
theorem dX5_add_20 : decode cX5_add 20 = .ok (.invokestatic 42, 3) := by decide +kernel
theorem dX5_add_23 : decode cX5_add 23 = .ok (.pop, 1) := by decide +kernel
theorem dX5_add_24 : decode cX5_add 24 = .ok (.aload_n 0, 1) := by decide +kernel
theorem dX5_add_25 : decode cX5_add 25 = .ok (.invokevirtual 46, 3) := by decide +kernel
theorem dX5_add_28 : decode cX5_add 28 = .ok (.istore 5, 2) := by decide +kernel
theorem dX5_add_30 : decode cX5_add 30 = .ok (.aload_n 0, 1) := by decide +kernel
theorem dX5_add_31 : decode cX5_add 31 = .ok (.getfield 9, 3) := by decide +kernel
theorem dX5_add_34 : decode cX5_add 34 = .ok (.iload 5, 2) := by decide +kernel
theorem dX5_add_36 : decode cX5_add 36 = .ok (.iload_n 1, 1) := by decide +kernel
theorem dX5_add_37 : decode cX5_add 37 = .ok (.iastore, 1) := by decide +kernel
theorem dX5_add_38 : decode cX5_add 38 = .ok (.aload_n 0, 1) := by decide +kernel
theorem dX5_add_39 : decode cX5_add 39 = .ok (.getfield 15, 3) := by decide +kernel
theorem dX5_add_42 : decode cX5_add 42 = .ok (.iload 5, 2) := by decide +kernel
theorem dX5_add_44 : decode cX5_add 44 = .ok (.iload_n 2, 1) := by decide +kernel
theorem dX5_add_45 : decode cX5_add 45 = .ok (.iastore, 1) := by decide +kernel
theorem dX5_add_46 : decode cX5_add 46 = .ok (.aload_n 0, 1) := by decide +kernel
theorem dX5_add_47 : decode cX5_add 47 = .ok (.getfield 18, 3) := by decide +kernel
theorem dX5_add_50 : decode cX5_add 50 = .ok (.iload 5, 2) := by decide +kernel
theorem dX5_add_52 : decode cX5_add 52 = .ok (.iload_n 3, 1) := by decide +kernel
theorem dX5_add_53 : decode cX5_add 53 = .ok (.iastore, 1) := by decide +kernel
theorem dX5_add_54 : decode cX5_add 54 = .ok (.aload_n 0, 1) := by decide +kernel
theorem dX5_add_55 : decode cX5_add 55 = .ok (.getfield 21, 3) := by decide +kernel
theorem dX5_add_58 : decode cX5_add 58 = .ok (.iload 5, 2) := by decide +kernel
theorem dX5_add_60 : decode cX5_add 60 = .ok (.iload 4, 2) := by decide +kernel
theorem dX5_add_62 : decode cX5_add 62 = .ok (.iload_n 3, 1) := by decide +kernel
theorem dX5_add_63 : decode cX5_add 63 = .ok (.iadd, 1) := by decide +kernel
theorem dX5_add_64 : decode cX5_add 64 = .ok (.iastore, 1) := by decide +kernel
theorem dX5_add_65 : decode cX5_add 65 = .ok (.aload_n 0, 1) := by decide +kernel
theorem dX5_add_66 : decode cX5_add 66 = .ok (.getfield 24, 3) := by decide +kernel
theorem dX5_add_69 : decode cX5_add 69 = .ok (.iload 5, 2) := by decide +kernel
theorem dX5_add_71 : decode cX5_add 71 = .ok (.iconst 1, 1) := by decide +kernel
theorem dX5_add_72 : decode cX5_add 72 = .ok (.iload_n 1, 1) := by decide +kernel
theorem dX5_add_73 : decode cX5_add 73 = .ok (.iload_n 2, 1) := by decide +kernel
theorem dX5_add_74 : decode cX5_add 74 = .ok (.imul, 1) := by decide +kernel
theorem dX5_add_75 : decode cX5_add 75 = .ok (.iload_n 3, 1) := by decide +kernel
theorem dX5_add_76 : decode cX5_add 76 = .ok (.imul, 1) := by decide +kernel
theorem dX5_add_77 : decode cX5_add 77 = .ok (.bipush 80, 2) := by decide +kernel
theorem dX5_add_79 : decode cX5_add 79 = .ok (.iadd, 1) := by decide +kernel
theorem dX5_add_80 : decode cX5_add 80 = .ok (.iconst 1, 1) := by decide +kernel
theorem dX5_add_81 : decode cX5_add 81 = .ok (.isub, 1) := by decide +kernel
theorem dX5_add_82 : decode cX5_add 82 = .ok (.bipush 80, 2) := by decide +kernel
theorem dX5_add_84 : decode cX5_add 84 = .ok (.idiv, 1) := by decide +kernel
theorem dX5_add_85 : decode cX5_add 85 = .ok (.invokestatic 50, 3) := by decide +kernel
theorem dX5_add_88 : decode cX5_add 88 = .ok (.iastore, 1) := by decide +kernel
theorem dX5_add_89 : decode cX5_add 89 = .ok (.aload_n 0, 1) := by decide +kernel
theorem dX5_add_90 : decode cX5_add 90 = .ok (.getfield 27, 3) := by decide +kernel
theorem dX5_add_93 : decode cX5_add 93 = .ok (.iload 5, 2) := by decide +kernel
theorem dX5_add_95 : decode cX5_add 95 = .ok (.iconst 0, 1) := by decide +kernel
theorem dX5_add_96 : decode cX5_add 96 = .ok (.iastore, 1) := by decide +kernel
theorem dX5_add_97 : decode cX5_add 97 = .ok (.iload 5, 2) := by decide +kernel
theorem dX5_add_99 : decode cX5_add 99 = .ok (.ireturn, 1) := by decide +kernel
theorem dX5_remove_0 : decode cX5_remove 0 = .ok (.aload_n 0, 1) := by decide +kernel
theorem dX5_remove_1 : decode cX5_remove 1 = .ok (.iload_n 1, 1) := by decide +kernel
theorem dX5_remove_2 : decode cX5_remove 2 = .ok (.invokevirtual 56, 3) := by decide +kernel
theorem dX5_remove_5 : decode cX5_remove 5 = .ok (.aload_n 0, 1) := by decide +kernel
theorem dX5_remove_6 : decode cX5_remove 6 = .ok (.getfield 9, 3) := by decide +kernel
theorem dX5_remove_9 : decode cX5_remove 9 = .ok (.iload_n 1, 1) := by decide +kernel
theorem dX5_remove_10 : decode cX5_remove 10 = .ok (.invokestatic 60, 3) := by decide +kernel
theorem dX5_remove_13 : decode cX5_remove 13 = .ok (.aload_n 0, 1) := by decide +kernel
theorem dX5_remove_14 : decode cX5_remove 14 = .ok (.getfield 15, 3) := by decide +kernel
theorem dX5_remove_17 : decode cX5_remove 17 = .ok (.iload_n 1, 1) := by decide +kernel
theorem dX5_remove_18 : decode cX5_remove 18 = .ok (.invokestatic 60, 3) := by decide +kernel
theorem dX5_remove_21 : decode cX5_remove 21 = .ok (.aload_n 0, 1) := by decide +kernel
theorem dX5_remove_22 : decode cX5_remove 22 = .ok (.getfield 18, 3) := by decide +kernel
theorem dX5_remove_25 : decode cX5_remove 25 = .ok (.iload_n 1, 1) := by decide +kernel
theorem dX5_remove_26 : decode cX5_remove 26 = .ok (.invokestatic 60, 3) := by decide +kernel
theorem dX5_remove_29 : decode cX5_remove 29 = .ok (.aload_n 0, 1) := by decide +kernel
theorem dX5_remove_30 : decode cX5_remove 30 = .ok (.getfield 21, 3) := by decide +kernel
theorem dX5_remove_33 : decode cX5_remove 33 = .ok (.iload_n 1, 1) := by decide +kernel
theorem dX5_remove_34 : decode cX5_remove 34 = .ok (.invokestatic 60, 3) := by decide +kernel
theorem dX5_remove_37 : decode cX5_remove 37 = .ok (.aload_n 0, 1) := by decide +kernel
theorem dX5_remove_38 : decode cX5_remove 38 = .ok (.getfield 24, 3) := by decide +kernel
theorem dX5_remove_41 : decode cX5_remove 41 = .ok (.iload_n 1, 1) := by decide +kernel
theorem dX5_remove_42 : decode cX5_remove 42 = .ok (.invokestatic 60, 3) := by decide +kernel
theorem dX5_remove_45 : decode cX5_remove 45 = .ok (.aload_n 0, 1) := by decide +kernel
theorem dX5_remove_46 : decode cX5_remove 46 = .ok (.getfield 27, 3) := by decide +kernel
theorem dX5_remove_49 : decode cX5_remove 49 = .ok (.iload_n 1, 1) := by decide +kernel
theorem dX5_remove_50 : decode cX5_remove 50 = .ok (.invokestatic 60, 3) := by decide +kernel
theorem dX5_remove_53 : decode cX5_remove 53 = .ok (.return_, 1) := by decide +kernel
theorem dX5_isActiveAt_0 : decode cX5_isActiveAt 0 = .ok (.iload_n 2, 1) := by decide +kernel
theorem dX5_isActiveAt_1 : decode cX5_isActiveAt 1 = .ok (.aload_n 0, 1) := by decide +kernel
theorem dX5_isActiveAt_2 : decode cX5_isActiveAt 2 = .ok (.getfield 21, 3) := by decide +kernel
theorem dX5_isActiveAt_5 : decode cX5_isActiveAt 5 = .ok (.iload_n 1, 1) := by decide +kernel
theorem dX5_isActiveAt_6 : decode cX5_isActiveAt 6 = .ok (.iaload, 1) := by decide +kernel
theorem dX5_isActiveAt_7 : decode cX5_isActiveAt 7 = .ok (.if_icmp .ge 7, 3) := by decide +kernel
theorem dX5_isActiveAt_10 : decode cX5_isActiveAt 10 = .ok (.iconst 1, 1) := by decide +kernel
theorem dX5_isActiveAt_11 : decode cX5_isActiveAt 11 = .ok (.goto 4, 3) := by decide +kernel
theorem dX5_isActiveAt_14 : decode cX5_isActiveAt 14 = .ok (.iconst 0, 1) := by decide +kernel
theorem dX5_isActiveAt_15 : decode cX5_isActiveAt 15 = .ok (.ireturn, 1) := by decide +kernel
theorem dX5_leftAt_0 : decode cX5_leftAt 0 = .ok (.aload_n 0, 1) := by decide +kernel
theorem dX5_leftAt_1 : decode cX5_leftAt 1 = .ok (.getfield 9, 3) := by decide +kernel
theorem dX5_leftAt_4 : decode cX5_leftAt 4 = .ok (.iload_n 1, 1) := by decide +kernel
theorem dX5_leftAt_5 : decode cX5_leftAt 5 = .ok (.iaload, 1) := by decide +kernel
theorem dX5_leftAt_6 : decode cX5_leftAt 6 = .ok (.aload_n 0, 1) := by decide +kernel
theorem dX5_leftAt_7 : decode cX5_leftAt 7 = .ok (.getfield 27, 3) := by decide +kernel
theorem dX5_leftAt_10 : decode cX5_leftAt 10 = .ok (.iload_n 1, 1) := by decide +kernel
theorem dX5_leftAt_11 : decode cX5_leftAt 11 = .ok (.iaload, 1) := by decide +kernel
theorem dX5_leftAt_12 : decode cX5_leftAt 12 = .ok (.isub, 1) := by decide +kernel
theorem dX5_leftAt_13 : decode cX5_leftAt 13 = .ok (.ireturn, 1) := by decide +kernel
theorem dX5_refundAt_0 : decode cX5_refundAt 0 = .ok (.aload_n 0, 1) := by decide +kernel
theorem dX5_refundAt_1 : decode cX5_refundAt 1 = .ok (.iload_n 1, 1) := by decide +kernel
theorem dX5_refundAt_2 : decode cX5_refundAt 2 = .ok (.iload_n 2, 1) := by decide +kernel
theorem dX5_refundAt_3 : decode cX5_refundAt 3 = .ok (.invokevirtual 64, 3) := by decide +kernel
theorem dX5_refundAt_6 : decode cX5_refundAt 6 = .ok (.ifCond .eq 13, 3) := by decide +kernel
theorem dX5_refundAt_9 : decode cX5_refundAt 9 = .ok (.aload_n 0, 1) := by decide +kernel
theorem dX5_refundAt_10 : decode cX5_refundAt 10 = .ok (.getfield 18, 3) := by decide +kernel
theorem dX5_refundAt_13 : decode cX5_refundAt 13 = .ok (.iload_n 1, 1) := by decide +kernel
theorem dX5_refundAt_14 : decode cX5_refundAt 14 = .ok (.iaload, 1) := by decide +kernel
theorem dX5_refundAt_15 : decode cX5_refundAt 15 = .ok (.iconst 1, 1) := by decide +kernel
theorem dX5_refundAt_16 : decode cX5_refundAt 16 = .ok (.if_icmp .ge 5, 3) := by decide +kernel
theorem dX5_refundAt_19 : decode cX5_refundAt 19 = .ok (.iconst 0, 1) := by decide +kernel
theorem dX5_refundAt_20 : decode cX5_refundAt 20 = .ok (.ireturn, 1) := by decide +kernel
theorem dX5_refundAt_21 : decode cX5_refundAt 21 = .ok (.aload_n 0, 1) := by decide +kernel
theorem dX5_refundAt_22 : decode cX5_refundAt 22 = .ok (.getfield 24, 3) := by decide +kernel
theorem dX5_refundAt_25 : decode cX5_refundAt 25 = .ok (.iload_n 1, 1) := by decide +kernel
theorem dX5_refundAt_26 : decode cX5_refundAt 26 = .ok (.iaload, 1) := by decide +kernel
theorem dX5_refundAt_27 : decode cX5_refundAt 27 = .ok (.aload_n 0, 1) := by decide +kernel
theorem dX5_refundAt_28 : decode cX5_refundAt 28 = .ok (.getfield 21, 3) := by decide +kernel
theorem dX5_refundAt_31 : decode cX5_refundAt 31 = .ok (.iload_n 1, 1) := by decide +kernel
theorem dX5_refundAt_32 : decode cX5_refundAt 32 = .ok (.iaload, 1) := by decide +kernel
theorem dX5_refundAt_33 : decode cX5_refundAt 33 = .ok (.iload_n 2, 1) := by decide +kernel
theorem dX5_refundAt_34 : decode cX5_refundAt 34 = .ok (.isub, 1) := by decide +kernel
theorem dX5_refundAt_35 : decode cX5_refundAt 35 = .ok (.imul, 1) := by decide +kernel
theorem dX5_refundAt_36 : decode cX5_refundAt 36 = .ok (.aload_n 0, 1) := by decide +kernel
theorem dX5_refundAt_37 : decode cX5_refundAt 37 = .ok (.getfield 18, 3) := by decide +kernel
theorem dX5_refundAt_40 : decode cX5_refundAt 40 = .ok (.iload_n 1, 1) := by decide +kernel
theorem dX5_refundAt_41 : decode cX5_refundAt 41 = .ok (.iaload, 1) := by decide +kernel
theorem dX5_refundAt_42 : decode cX5_refundAt 42 = .ok (.idiv, 1) := by decide +kernel
theorem dX5_refundAt_43 : decode cX5_refundAt 43 = .ok (.ireturn, 1) := by decide +kernel
theorem dX5_isAhead_0 : decode cX5_isAhead 0 = .ok (.aload_n 0, 1) := by decide +kernel
theorem dX5_isAhead_1 : decode cX5_isAhead 1 = .ok (.getfield 9, 3) := by decide +kernel
theorem dX5_isAhead_4 : decode cX5_isAhead 4 = .ok (.iload_n 1, 1) := by decide +kernel
theorem dX5_isAhead_5 : decode cX5_isAhead 5 = .ok (.iaload, 1) := by decide +kernel
theorem dX5_isAhead_6 : decode cX5_isAhead 6 = .ok (.aload_n 0, 1) := by decide +kernel
theorem dX5_isAhead_7 : decode cX5_isAhead 7 = .ok (.getfield 15, 3) := by decide +kernel
theorem dX5_isAhead_10 : decode cX5_isAhead 10 = .ok (.iload_n 1, 1) := by decide +kernel
theorem dX5_isAhead_11 : decode cX5_isAhead 11 = .ok (.iaload, 1) := by decide +kernel
theorem dX5_isAhead_12 : decode cX5_isAhead 12 = .ok (.imul, 1) := by decide +kernel
theorem dX5_isAhead_13 : decode cX5_isAhead 13 = .ok (.istore_n 3, 1) := by decide +kernel
theorem dX5_isAhead_14 : decode cX5_isAhead 14 = .ok (.aload_n 0, 1) := by decide +kernel
theorem dX5_isAhead_15 : decode cX5_isAhead 15 = .ok (.getfield 9, 3) := by decide +kernel
theorem dX5_isAhead_18 : decode cX5_isAhead 18 = .ok (.iload_n 2, 1) := by decide +kernel
theorem dX5_isAhead_19 : decode cX5_isAhead 19 = .ok (.iaload, 1) := by decide +kernel
theorem dX5_isAhead_20 : decode cX5_isAhead 20 = .ok (.aload_n 0, 1) := by decide +kernel
theorem dX5_isAhead_21 : decode cX5_isAhead 21 = .ok (.getfield 15, 3) := by decide +kernel
theorem dX5_isAhead_24 : decode cX5_isAhead 24 = .ok (.iload_n 2, 1) := by decide +kernel
theorem dX5_isAhead_25 : decode cX5_isAhead 25 = .ok (.iaload, 1) := by decide +kernel
theorem dX5_isAhead_26 : decode cX5_isAhead 26 = .ok (.imul, 1) := by decide +kernel
theorem dX5_isAhead_27 : decode cX5_isAhead 27 = .ok (.istore 4, 2) := by decide +kernel
theorem dX5_isAhead_29 : decode cX5_isAhead 29 = .ok (.iload_n 3, 1) := by decide +kernel
theorem dX5_isAhead_30 : decode cX5_isAhead 30 = .ok (.iload 4, 2) := by decide +kernel
theorem dX5_isAhead_32 : decode cX5_isAhead 32 = .ok (.if_icmp .eq 15, 3) := by decide +kernel
theorem dX5_isAhead_35 : decode cX5_isAhead 35 = .ok (.iload_n 3, 1) := by decide +kernel
theorem dX5_isAhead_36 : decode cX5_isAhead 36 = .ok (.iload 4, 2) := by decide +kernel
theorem dX5_isAhead_38 : decode cX5_isAhead 38 = .ok (.if_icmp .le 7, 3) := by decide +kernel
theorem dX5_isAhead_41 : decode cX5_isAhead 41 = .ok (.iconst 1, 1) := by decide +kernel
theorem dX5_isAhead_42 : decode cX5_isAhead 42 = .ok (.goto 4, 3) := by decide +kernel
theorem dX5_isAhead_45 : decode cX5_isAhead 45 = .ok (.iconst 0, 1) := by decide +kernel
theorem dX5_isAhead_46 : decode cX5_isAhead 46 = .ok (.ireturn, 1) := by decide +kernel
theorem dX5_isAhead_47 : decode cX5_isAhead 47 = .ok (.aload_n 0, 1) := by decide +kernel
theorem dX5_isAhead_48 : decode cX5_isAhead 48 = .ok (.getfield 24, 3) := by decide +kernel
theorem dX5_isAhead_51 : decode cX5_isAhead 51 = .ok (.iload_n 1, 1) := by decide +kernel
theorem dX5_isAhead_52 : decode cX5_isAhead 52 = .ok (.iaload, 1) := by decide +kernel
theorem dX5_isAhead_53 : decode cX5_isAhead 53 = .ok (.aload_n 0, 1) := by decide +kernel
theorem dX5_isAhead_54 : decode cX5_isAhead 54 = .ok (.getfield 24, 3) := by decide +kernel
theorem dX5_isAhead_57 : decode cX5_isAhead 57 = .ok (.iload_n 2, 1) := by decide +kernel
theorem dX5_isAhead_58 : decode cX5_isAhead 58 = .ok (.iaload, 1) := by decide +kernel
theorem dX5_isAhead_59 : decode cX5_isAhead 59 = .ok (.if_icmp .eq 24, 3) := by decide +kernel
theorem dX5_isAhead_62 : decode cX5_isAhead 62 = .ok (.aload_n 0, 1) := by decide +kernel
theorem dX5_isAhead_63 : decode cX5_isAhead 63 = .ok (.getfield 24, 3) := by decide +kernel
theorem dX5_isAhead_66 : decode cX5_isAhead 66 = .ok (.iload_n 1, 1) := by decide +kernel
theorem dX5_isAhead_67 : decode cX5_isAhead 67 = .ok (.iaload, 1) := by decide +kernel
theorem dX5_isAhead_68 : decode cX5_isAhead 68 = .ok (.aload_n 0, 1) := by decide +kernel
theorem dX5_isAhead_69 : decode cX5_isAhead 69 = .ok (.getfield 24, 3) := by decide +kernel
theorem dX5_isAhead_72 : decode cX5_isAhead 72 = .ok (.iload_n 2, 1) := by decide +kernel
theorem dX5_isAhead_73 : decode cX5_isAhead 73 = .ok (.iaload, 1) := by decide +kernel
theorem dX5_isAhead_74 : decode cX5_isAhead 74 = .ok (.if_icmp .le 7, 3) := by decide +kernel
theorem dX5_isAhead_77 : decode cX5_isAhead 77 = .ok (.iconst 1, 1) := by decide +kernel
theorem dX5_isAhead_78 : decode cX5_isAhead 78 = .ok (.goto 4, 3) := by decide +kernel
theorem dX5_isAhead_81 : decode cX5_isAhead 81 = .ok (.iconst 0, 1) := by decide +kernel
theorem dX5_isAhead_82 : decode cX5_isAhead 82 = .ok (.ireturn, 1) := by decide +kernel
theorem dX5_isAhead_83 : decode cX5_isAhead 83 = .ok (.aload_n 0, 1) := by decide +kernel
theorem dX5_isAhead_84 : decode cX5_isAhead 84 = .ok (.getfield 68, 3) := by decide +kernel
theorem dX5_isAhead_87 : decode cX5_isAhead 87 = .ok (.iload_n 1, 1) := by decide +kernel
theorem dX5_isAhead_88 : decode cX5_isAhead 88 = .ok (.iaload, 1) := by decide +kernel
theorem dX5_isAhead_89 : decode cX5_isAhead 89 = .ok (.aload_n 0, 1) := by decide +kernel
theorem dX5_isAhead_90 : decode cX5_isAhead 90 = .ok (.getfield 68, 3) := by decide +kernel
theorem dX5_isAhead_93 : decode cX5_isAhead 93 = .ok (.iload_n 2, 1) := by decide +kernel
theorem dX5_isAhead_94 : decode cX5_isAhead 94 = .ok (.iaload, 1) := by decide +kernel
theorem dX5_isAhead_95 : decode cX5_isAhead 95 = .ok (.if_icmp .ge 7, 3) := by decide +kernel
theorem dX5_isAhead_98 : decode cX5_isAhead 98 = .ok (.iconst 1, 1) := by decide +kernel
theorem dX5_isAhead_99 : decode cX5_isAhead 99 = .ok (.goto 4, 3) := by decide +kernel
theorem dX5_isAhead_102 : decode cX5_isAhead 102 = .ok (.iconst 0, 1) := by decide +kernel
theorem dX5_isAhead_103 : decode cX5_isAhead 103 = .ok (.ireturn, 1) := by decide +kernel
theorem dX5_countOutcomes_0 : decode cX5_countOutcomes 0 = .ok (.lconst 1, 1) := by decide +kernel
theorem dX5_countOutcomes_1 : decode cX5_countOutcomes 1 = .ok (.lstore_n 2, 1) := by decide +kernel
theorem dX5_countOutcomes_2 : decode cX5_countOutcomes 2 = .ok (.iconst 0, 1) := by decide +kernel
theorem dX5_countOutcomes_3 : decode cX5_countOutcomes 3 = .ok (.istore 4, 2) := by decide +kernel
theorem dX5_countOutcomes_5 : decode cX5_countOutcomes 5 = .ok (.iload 4, 2) := by decide +kernel
theorem dX5_countOutcomes_7 : decode cX5_countOutcomes 7 = .ok (.aload_n 0, 1) := by decide +kernel
theorem dX5_countOutcomes_8 : decode cX5_countOutcomes 8 = .ok (.getfield 71, 3) := by decide +kernel
theorem dX5_countOutcomes_11 : decode cX5_countOutcomes 11 = .ok (.if_icmp .ge 25, 3) := by decide +kernel
theorem dX5_countOutcomes_14 : decode cX5_countOutcomes 14 = .ok (.aload_n 0, 1) := by decide +kernel
theorem dX5_countOutcomes_15 : decode cX5_countOutcomes 15 = .ok (.iload 4, 2) := by decide +kernel
theorem dX5_countOutcomes_17 : decode cX5_countOutcomes 17 = .ok (.iload_n 1, 1) := by decide +kernel
theorem dX5_countOutcomes_18 : decode cX5_countOutcomes 18 = .ok (.invokevirtual 64, 3) := by decide +kernel
theorem dX5_countOutcomes_21 : decode cX5_countOutcomes 21 = .ok (.ifCond .eq 9, 3) := by decide +kernel
theorem dX5_countOutcomes_24 : decode cX5_countOutcomes 24 = .ok (.lload_n 2, 1) := by decide +kernel
theorem dX5_countOutcomes_25 : decode cX5_countOutcomes 25 = .ok (.ldc2_w 75, 3) := by decide +kernel
theorem dX5_countOutcomes_28 : decode cX5_countOutcomes 28 = .ok (.lmul, 1) := by decide +kernel
theorem dX5_countOutcomes_29 : decode cX5_countOutcomes 29 = .ok (.lstore_n 2, 1) := by decide +kernel
theorem dX5_countOutcomes_30 : decode cX5_countOutcomes 30 = .ok (.iinc 4 1, 3) := by decide +kernel
theorem dX5_countOutcomes_33 : decode cX5_countOutcomes 33 = .ok (.goto (-28), 3) := by decide +kernel
theorem dX5_countOutcomes_36 : decode cX5_countOutcomes 36 = .ok (.lload_n 2, 1) := by decide +kernel
theorem dX5_countOutcomes_37 : decode cX5_countOutcomes 37 = .ok (.lreturn, 1) := by decide +kernel
theorem dX5_mostLoss_0 : decode cX5_mostLoss 0 = .ok (.iconst 0, 1) := by decide +kernel
theorem dX5_mostLoss_1 : decode cX5_mostLoss 1 = .ok (.istore_n 2, 1) := by decide +kernel
theorem dX5_mostLoss_2 : decode cX5_mostLoss 2 = .ok (.iconst 0, 1) := by decide +kernel
theorem dX5_mostLoss_3 : decode cX5_mostLoss 3 = .ok (.istore_n 3, 1) := by decide +kernel
theorem dX5_mostLoss_4 : decode cX5_mostLoss 4 = .ok (.iload_n 3, 1) := by decide +kernel
theorem dX5_mostLoss_5 : decode cX5_mostLoss 5 = .ok (.aload_n 0, 1) := by decide +kernel
theorem dX5_mostLoss_6 : decode cX5_mostLoss 6 = .ok (.getfield 71, 3) := by decide +kernel
theorem dX5_mostLoss_9 : decode cX5_mostLoss 9 = .ok (.if_icmp .ge 36, 3) := by decide +kernel
theorem dX5_mostLoss_12 : decode cX5_mostLoss 12 = .ok (.aload_n 0, 1) := by decide +kernel
theorem dX5_mostLoss_13 : decode cX5_mostLoss 13 = .ok (.iload_n 3, 1) := by decide +kernel
theorem dX5_mostLoss_14 : decode cX5_mostLoss 14 = .ok (.iload_n 1, 1) := by decide +kernel
theorem dX5_mostLoss_15 : decode cX5_mostLoss 15 = .ok (.invokevirtual 64, 3) := by decide +kernel
theorem dX5_mostLoss_18 : decode cX5_mostLoss 18 = .ok (.ifCond .eq 21, 3) := by decide +kernel
theorem dX5_mostLoss_21 : decode cX5_mostLoss 21 = .ok (.aload_n 0, 1) := by decide +kernel
theorem dX5_mostLoss_22 : decode cX5_mostLoss 22 = .ok (.getfield 15, 3) := by decide +kernel
theorem dX5_mostLoss_25 : decode cX5_mostLoss 25 = .ok (.iload_n 3, 1) := by decide +kernel
theorem dX5_mostLoss_26 : decode cX5_mostLoss 26 = .ok (.iaload, 1) := by decide +kernel
theorem dX5_mostLoss_27 : decode cX5_mostLoss 27 = .ok (.ifCond .le 12, 3) := by decide +kernel
theorem dX5_mostLoss_30 : decode cX5_mostLoss 30 = .ok (.iload_n 2, 1) := by decide +kernel
theorem dX5_mostLoss_31 : decode cX5_mostLoss 31 = .ok (.aload_n 0, 1) := by decide +kernel
theorem dX5_mostLoss_32 : decode cX5_mostLoss 32 = .ok (.getfield 9, 3) := by decide +kernel
theorem dX5_mostLoss_35 : decode cX5_mostLoss 35 = .ok (.iload_n 3, 1) := by decide +kernel
theorem dX5_mostLoss_36 : decode cX5_mostLoss 36 = .ok (.iaload, 1) := by decide +kernel
theorem dX5_mostLoss_37 : decode cX5_mostLoss 37 = .ok (.iadd, 1) := by decide +kernel
theorem dX5_mostLoss_38 : decode cX5_mostLoss 38 = .ok (.istore_n 2, 1) := by decide +kernel
theorem dX5_mostLoss_39 : decode cX5_mostLoss 39 = .ok (.iinc 3 1, 3) := by decide +kernel
theorem dX5_mostLoss_42 : decode cX5_mostLoss 42 = .ok (.goto (-38), 3) := by decide +kernel
theorem dX5_mostLoss_45 : decode cX5_mostLoss 45 = .ok (.iload_n 2, 1) := by decide +kernel
theorem dX5_mostLoss_46 : decode cX5_mostLoss 46 = .ok (.ireturn, 1) := by decide +kernel
theorem dX5_countByTable_0 : decode cX5_countByTable 0 = .ok (.aload_n 0, 1) := by decide +kernel
theorem dX5_countByTable_1 : decode cX5_countByTable 1 = .ok (.getfield 30, 3) := by decide +kernel
theorem dX5_countByTable_4 : decode cX5_countByTable 4 = .ok (.lconst 0, 1) := by decide +kernel
theorem dX5_countByTable_5 : decode cX5_countByTable 5 = .ok (.invokestatic 77, 3) := by decide +kernel
theorem dX5_countByTable_8 : decode cX5_countByTable 8 = .ok (.aload_n 0, 1) := by decide +kernel
theorem dX5_countByTable_9 : decode cX5_countByTable 9 = .ok (.getfield 30, 3) := by decide +kernel
theorem dX5_countByTable_12 : decode cX5_countByTable 12 = .ok (.iconst 0, 1) := by decide +kernel
theorem dX5_countByTable_13 : decode cX5_countByTable 13 = .ok (.lconst 1, 1) := by decide +kernel
theorem dX5_countByTable_14 : decode cX5_countByTable 14 = .ok (.lastore, 1) := by decide +kernel
theorem dX5_countByTable_15 : decode cX5_countByTable 15 = .ok (.iconst 0, 1) := by decide +kernel
theorem dX5_countByTable_16 : decode cX5_countByTable 16 = .ok (.istore_n 3, 1) := by decide +kernel
theorem dX5_countByTable_17 : decode cX5_countByTable 17 = .ok (.iload_n 3, 1) := by decide +kernel
theorem dX5_countByTable_18 : decode cX5_countByTable 18 = .ok (.aload_n 0, 1) := by decide +kernel
theorem dX5_countByTable_19 : decode cX5_countByTable 19 = .ok (.getfield 71, 3) := by decide +kernel
theorem dX5_countByTable_22 : decode cX5_countByTable 22 = .ok (.if_icmp .ge 34, 3) := by decide +kernel
theorem dX5_countByTable_25 : decode cX5_countByTable 25 = .ok (.aload_n 0, 1) := by decide +kernel
theorem dX5_countByTable_26 : decode cX5_countByTable 26 = .ok (.iload_n 3, 1) := by decide +kernel
theorem dX5_countByTable_27 : decode cX5_countByTable 27 = .ok (.iload_n 2, 1) := by decide +kernel
theorem dX5_countByTable_28 : decode cX5_countByTable 28 = .ok (.invokevirtual 64, 3) := by decide +kernel
theorem dX5_countByTable_31 : decode cX5_countByTable 31 = .ok (.ifCond .eq 19, 3) := by decide +kernel
theorem dX5_countByTable_34 : decode cX5_countByTable 34 = .ok (.aload_n 0, 1) := by decide +kernel
theorem dX5_countByTable_35 : decode cX5_countByTable 35 = .ok (.aload_n 0, 1) := by decide +kernel
theorem dX5_countByTable_36 : decode cX5_countByTable 36 = .ok (.getfield 9, 3) := by decide +kernel
theorem dX5_countByTable_39 : decode cX5_countByTable 39 = .ok (.iload_n 3, 1) := by decide +kernel
theorem dX5_countByTable_40 : decode cX5_countByTable 40 = .ok (.iaload, 1) := by decide +kernel
theorem dX5_countByTable_41 : decode cX5_countByTable 41 = .ok (.aload_n 0, 1) := by decide +kernel
theorem dX5_countByTable_42 : decode cX5_countByTable 42 = .ok (.getfield 15, 3) := by decide +kernel
theorem dX5_countByTable_45 : decode cX5_countByTable 45 = .ok (.iload_n 3, 1) := by decide +kernel
theorem dX5_countByTable_46 : decode cX5_countByTable 46 = .ok (.iaload, 1) := by decide +kernel
theorem dX5_countByTable_47 : decode cX5_countByTable 47 = .ok (.invokevirtual 83, 3) := by decide +kernel
theorem dX5_countByTable_50 : decode cX5_countByTable 50 = .ok (.iinc 3 1, 3) := by decide +kernel
theorem dX5_countByTable_53 : decode cX5_countByTable 53 = .ok (.goto (-36), 3) := by decide +kernel
theorem dX5_countByTable_56 : decode cX5_countByTable 56 = .ok (.lconst 0, 1) := by decide +kernel
theorem dX5_countByTable_57 : decode cX5_countByTable 57 = .ok (.lstore_n 3, 1) := by decide +kernel
theorem dX5_countByTable_58 : decode cX5_countByTable 58 = .ok (.iconst 0, 1) := by decide +kernel
theorem dX5_countByTable_59 : decode cX5_countByTable 59 = .ok (.istore 5, 2) := by decide +kernel
theorem dX5_countByTable_61 : decode cX5_countByTable 61 = .ok (.iload 5, 2) := by decide +kernel
theorem dX5_countByTable_63 : decode cX5_countByTable 63 = .ok (.iload_n 1, 1) := by decide +kernel
theorem dX5_countByTable_64 : decode cX5_countByTable 64 = .ok (.sipush 240, 3) := by decide +kernel
theorem dX5_countByTable_67 : decode cX5_countByTable 67 = .ok (.invokestatic 87, 3) := by decide +kernel
theorem dX5_countByTable_70 : decode cX5_countByTable 70 = .ok (.if_icmp .gt 19, 3) := by decide +kernel
theorem dX5_countByTable_73 : decode cX5_countByTable 73 = .ok (.lload_n 3, 1) := by decide +kernel
theorem dX5_countByTable_74 : decode cX5_countByTable 74 = .ok (.aload_n 0, 1) := by decide +kernel
theorem dX5_countByTable_75 : decode cX5_countByTable 75 = .ok (.getfield 30, 3) := by decide +kernel
theorem dX5_countByTable_78 : decode cX5_countByTable 78 = .ok (.iload 5, 2) := by decide +kernel
theorem dX5_countByTable_80 : decode cX5_countByTable 80 = .ok (.laload, 1) := by decide +kernel
theorem dX5_countByTable_81 : decode cX5_countByTable 81 = .ok (.ladd, 1) := by decide +kernel
theorem dX5_countByTable_82 : decode cX5_countByTable 82 = .ok (.lstore_n 3, 1) := by decide +kernel
theorem dX5_countByTable_83 : decode cX5_countByTable 83 = .ok (.iinc 5 1, 3) := by decide +kernel
theorem dX5_countByTable_86 : decode cX5_countByTable 86 = .ok (.goto (-25), 3) := by decide +kernel
theorem dX5_countByTable_89 : decode cX5_countByTable 89 = .ok (.lload_n 3, 1) := by decide +kernel
theorem dX5_countByTable_90 : decode cX5_countByTable 90 = .ok (.lreturn, 1) := by decide +kernel
theorem dX5_addBoat_0 : decode cX5_addBoat 0 = .ok (.sipush 240, 3) := by decide +kernel
theorem dX5_addBoat_3 : decode cX5_addBoat 3 = .ok (.istore_n 3, 1) := by decide +kernel
theorem dX5_addBoat_4 : decode cX5_addBoat 4 = .ok (.iload_n 3, 1) := by decide +kernel
theorem dX5_addBoat_5 : decode cX5_addBoat 5 = .ok (.ifCond .lt 52, 3) := by decide +kernel
theorem dX5_addBoat_8 : decode cX5_addBoat 8 = .ok (.iload_n 3, 1) := by decide +kernel
theorem dX5_addBoat_9 : decode cX5_addBoat 9 = .ok (.iload_n 1, 1) := by decide +kernel
theorem dX5_addBoat_10 : decode cX5_addBoat 10 = .ok (.if_icmp .lt 17, 3) := by decide +kernel
theorem dX5_addBoat_13 : decode cX5_addBoat 13 = .ok (.aload_n 0, 1) := by decide +kernel
theorem dX5_addBoat_14 : decode cX5_addBoat 14 = .ok (.getfield 30, 3) := by decide +kernel
theorem dX5_addBoat_17 : decode cX5_addBoat 17 = .ok (.iload_n 3, 1) := by decide +kernel
theorem dX5_addBoat_18 : decode cX5_addBoat 18 = .ok (.iload_n 1, 1) := by decide +kernel
theorem dX5_addBoat_19 : decode cX5_addBoat 19 = .ok (.isub, 1) := by decide +kernel
theorem dX5_addBoat_20 : decode cX5_addBoat 20 = .ok (.laload, 1) := by decide +kernel
theorem dX5_addBoat_21 : decode cX5_addBoat 21 = .ok (.iload_n 2, 1) := by decide +kernel
theorem dX5_addBoat_22 : decode cX5_addBoat 22 = .ok (.i2l, 1) := by decide +kernel
theorem dX5_addBoat_23 : decode cX5_addBoat 23 = .ok (.lmul, 1) := by decide +kernel
theorem dX5_addBoat_24 : decode cX5_addBoat 24 = .ok (.goto 4, 3) := by decide +kernel
theorem dX5_addBoat_27 : decode cX5_addBoat 27 = .ok (.lconst 0, 1) := by decide +kernel
theorem dX5_addBoat_28 : decode cX5_addBoat 28 = .ok (.lstore 4, 2) := by decide +kernel
theorem dX5_addBoat_30 : decode cX5_addBoat 30 = .ok (.aload_n 0, 1) := by decide +kernel
theorem dX5_addBoat_31 : decode cX5_addBoat 31 = .ok (.getfield 30, 3) := by decide +kernel
theorem dX5_addBoat_34 : decode cX5_addBoat 34 = .ok (.iload_n 3, 1) := by decide +kernel
theorem dX5_addBoat_35 : decode cX5_addBoat 35 = .ok (.aload_n 0, 1) := by decide +kernel
theorem dX5_addBoat_36 : decode cX5_addBoat 36 = .ok (.getfield 30, 3) := by decide +kernel
theorem dX5_addBoat_39 : decode cX5_addBoat 39 = .ok (.iload_n 3, 1) := by decide +kernel
theorem dX5_addBoat_40 : decode cX5_addBoat 40 = .ok (.laload, 1) := by decide +kernel
theorem dX5_addBoat_41 : decode cX5_addBoat 41 = .ok (.bipush 8, 2) := by decide +kernel
theorem dX5_addBoat_43 : decode cX5_addBoat 43 = .ok (.iload_n 2, 1) := by decide +kernel
theorem dX5_addBoat_44 : decode cX5_addBoat 44 = .ok (.isub, 1) := by decide +kernel
theorem dX5_addBoat_45 : decode cX5_addBoat 45 = .ok (.i2l, 1) := by decide +kernel
theorem dX5_addBoat_46 : decode cX5_addBoat 46 = .ok (.lmul, 1) := by decide +kernel
theorem dX5_addBoat_47 : decode cX5_addBoat 47 = .ok (.lload 4, 2) := by decide +kernel
theorem dX5_addBoat_49 : decode cX5_addBoat 49 = .ok (.ladd, 1) := by decide +kernel
theorem dX5_addBoat_50 : decode cX5_addBoat 50 = .ok (.lastore, 1) := by decide +kernel
theorem dX5_addBoat_51 : decode cX5_addBoat 51 = .ok (.iinc 3 (-1), 3) := by decide +kernel
theorem dX5_addBoat_54 : decode cX5_addBoat 54 = .ok (.goto (-50), 3) := by decide +kernel
theorem dX5_addBoat_57 : decode cX5_addBoat 57 = .ok (.return_, 1) := by decide +kernel
theorem dX5_countBySets_0 : decode cX5_countBySets 0 = .ok (.lconst 0, 1) := by decide +kernel
theorem dX5_countBySets_1 : decode cX5_countBySets 1 = .ok (.lstore_n 3, 1) := by decide +kernel
theorem dX5_countBySets_2 : decode cX5_countBySets 2 = .ok (.iconst 0, 1) := by decide +kernel
theorem dX5_countBySets_3 : decode cX5_countBySets 3 = .ok (.istore 5, 2) := by decide +kernel
theorem dX5_countBySets_5 : decode cX5_countBySets 5 = .ok (.iload 5, 2) := by decide +kernel
theorem dX5_countBySets_7 : decode cX5_countBySets 7 = .ok (.iconst 1, 1) := by decide +kernel
theorem dX5_countBySets_8 : decode cX5_countBySets 8 = .ok (.aload_n 0, 1) := by decide +kernel
theorem dX5_countBySets_9 : decode cX5_countBySets 9 = .ok (.getfield 71, 3) := by decide +kernel
theorem dX5_countBySets_12 : decode cX5_countBySets 12 = .ok (.ishl, 1) := by decide +kernel
theorem dX5_countBySets_13 : decode cX5_countBySets 13 = .ok (.if_icmp .ge 29, 3) := by decide +kernel
theorem dX5_countBySets_16 : decode cX5_countBySets 16 = .ok (.aload_n 0, 1) := by decide +kernel
theorem dX5_countBySets_17 : decode cX5_countBySets 17 = .ok (.iload 5, 2) := by decide +kernel
theorem dX5_countBySets_19 : decode cX5_countBySets 19 = .ok (.invokevirtual 90, 3) := by decide +kernel
theorem dX5_countBySets_22 : decode cX5_countBySets 22 = .ok (.iload_n 1, 1) := by decide +kernel
theorem dX5_countBySets_23 : decode cX5_countBySets 23 = .ok (.if_icmp .gt 13, 3) := by decide +kernel
theorem dX5_countBySets_26 : decode cX5_countBySets 26 = .ok (.lload_n 3, 1) := by decide +kernel
theorem dX5_countBySets_27 : decode cX5_countBySets 27 = .ok (.aload_n 0, 1) := by decide +kernel
theorem dX5_countBySets_28 : decode cX5_countBySets 28 = .ok (.iload 5, 2) := by decide +kernel
theorem dX5_countBySets_30 : decode cX5_countBySets 30 = .ok (.iload_n 2, 1) := by decide +kernel
theorem dX5_countBySets_31 : decode cX5_countBySets 31 = .ok (.invokevirtual 94, 3) := by decide +kernel
theorem dX5_countBySets_34 : decode cX5_countBySets 34 = .ok (.ladd, 1) := by decide +kernel
theorem dX5_countBySets_35 : decode cX5_countBySets 35 = .ok (.lstore_n 3, 1) := by decide +kernel
theorem dX5_countBySets_36 : decode cX5_countBySets 36 = .ok (.iinc 5 1, 3) := by decide +kernel
theorem dX5_countBySets_39 : decode cX5_countBySets 39 = .ok (.goto (-34), 3) := by decide +kernel
theorem dX5_countBySets_42 : decode cX5_countBySets 42 = .ok (.lload_n 3, 1) := by decide +kernel
theorem dX5_countBySets_43 : decode cX5_countBySets 43 = .ok (.lreturn, 1) := by decide +kernel
theorem dX5_lossOfSet_0 : decode cX5_lossOfSet 0 = .ok (.iconst 0, 1) := by decide +kernel
theorem dX5_lossOfSet_1 : decode cX5_lossOfSet 1 = .ok (.istore_n 2, 1) := by decide +kernel
theorem dX5_lossOfSet_2 : decode cX5_lossOfSet 2 = .ok (.iconst 0, 1) := by decide +kernel
theorem dX5_lossOfSet_3 : decode cX5_lossOfSet 3 = .ok (.istore_n 3, 1) := by decide +kernel
theorem dX5_lossOfSet_4 : decode cX5_lossOfSet 4 = .ok (.iload_n 3, 1) := by decide +kernel
theorem dX5_lossOfSet_5 : decode cX5_lossOfSet 5 = .ok (.aload_n 0, 1) := by decide +kernel
theorem dX5_lossOfSet_6 : decode cX5_lossOfSet 6 = .ok (.getfield 71, 3) := by decide +kernel
theorem dX5_lossOfSet_9 : decode cX5_lossOfSet 9 = .ok (.if_icmp .ge 27, 3) := by decide +kernel
theorem dX5_lossOfSet_12 : decode cX5_lossOfSet 12 = .ok (.iload_n 1, 1) := by decide +kernel
theorem dX5_lossOfSet_13 : decode cX5_lossOfSet 13 = .ok (.iload_n 3, 1) := by decide +kernel
theorem dX5_lossOfSet_14 : decode cX5_lossOfSet 14 = .ok (.ishr, 1) := by decide +kernel
theorem dX5_lossOfSet_15 : decode cX5_lossOfSet 15 = .ok (.iconst 1, 1) := by decide +kernel
theorem dX5_lossOfSet_16 : decode cX5_lossOfSet 16 = .ok (.iand, 1) := by decide +kernel
theorem dX5_lossOfSet_17 : decode cX5_lossOfSet 17 = .ok (.iconst 1, 1) := by decide +kernel
theorem dX5_lossOfSet_18 : decode cX5_lossOfSet 18 = .ok (.if_icmp .ne 12, 3) := by decide +kernel
theorem dX5_lossOfSet_21 : decode cX5_lossOfSet 21 = .ok (.iload_n 2, 1) := by decide +kernel
theorem dX5_lossOfSet_22 : decode cX5_lossOfSet 22 = .ok (.aload_n 0, 1) := by decide +kernel
theorem dX5_lossOfSet_23 : decode cX5_lossOfSet 23 = .ok (.getfield 9, 3) := by decide +kernel
theorem dX5_lossOfSet_26 : decode cX5_lossOfSet 26 = .ok (.iload_n 3, 1) := by decide +kernel
theorem dX5_lossOfSet_27 : decode cX5_lossOfSet 27 = .ok (.iaload, 1) := by decide +kernel
theorem dX5_lossOfSet_28 : decode cX5_lossOfSet 28 = .ok (.iadd, 1) := by decide +kernel
theorem dX5_lossOfSet_29 : decode cX5_lossOfSet 29 = .ok (.istore_n 2, 1) := by decide +kernel
theorem dX5_lossOfSet_30 : decode cX5_lossOfSet 30 = .ok (.iinc 3 1, 3) := by decide +kernel
theorem dX5_lossOfSet_33 : decode cX5_lossOfSet 33 = .ok (.goto (-29), 3) := by decide +kernel
theorem dX5_lossOfSet_36 : decode cX5_lossOfSet 36 = .ok (.iload_n 2, 1) := by decide +kernel
theorem dX5_lossOfSet_37 : decode cX5_lossOfSet 37 = .ok (.ireturn, 1) := by decide +kernel
theorem dX5_waysOfSet_0 : decode cX5_waysOfSet 0 = .ok (.lconst 1, 1) := by decide +kernel
theorem dX5_waysOfSet_1 : decode cX5_waysOfSet 1 = .ok (.lstore_n 3, 1) := by decide +kernel
theorem dX5_waysOfSet_2 : decode cX5_waysOfSet 2 = .ok (.iconst 0, 1) := by decide +kernel
theorem dX5_waysOfSet_3 : decode cX5_waysOfSet 3 = .ok (.istore 5, 2) := by decide +kernel
theorem dX5_waysOfSet_5 : decode cX5_waysOfSet 5 = .ok (.iload 5, 2) := by decide +kernel
theorem dX5_waysOfSet_7 : decode cX5_waysOfSet 7 = .ok (.aload_n 0, 1) := by decide +kernel
theorem dX5_waysOfSet_8 : decode cX5_waysOfSet 8 = .ok (.getfield 71, 3) := by decide +kernel
theorem dX5_waysOfSet_11 : decode cX5_waysOfSet 11 = .ok (.if_icmp .ge 76, 3) := by decide +kernel
theorem dX5_waysOfSet_14 : decode cX5_waysOfSet 14 = .ok (.iload_n 1, 1) := by decide +kernel
theorem dX5_waysOfSet_15 : decode cX5_waysOfSet 15 = .ok (.iload 5, 2) := by decide +kernel
theorem dX5_waysOfSet_17 : decode cX5_waysOfSet 17 = .ok (.ishr, 1) := by decide +kernel
theorem dX5_waysOfSet_18 : decode cX5_waysOfSet 18 = .ok (.iconst 1, 1) := by decide +kernel
theorem dX5_waysOfSet_19 : decode cX5_waysOfSet 19 = .ok (.iand, 1) := by decide +kernel
theorem dX5_waysOfSet_20 : decode cX5_waysOfSet 20 = .ok (.iconst 1, 1) := by decide +kernel
theorem dX5_waysOfSet_21 : decode cX5_waysOfSet 21 = .ok (.if_icmp .ne 7, 3) := by decide +kernel
theorem dX5_waysOfSet_24 : decode cX5_waysOfSet 24 = .ok (.iconst 1, 1) := by decide +kernel
theorem dX5_waysOfSet_25 : decode cX5_waysOfSet 25 = .ok (.goto 4, 3) := by decide +kernel
theorem dX5_waysOfSet_28 : decode cX5_waysOfSet 28 = .ok (.iconst 0, 1) := by decide +kernel
theorem dX5_waysOfSet_29 : decode cX5_waysOfSet 29 = .ok (.istore 6, 2) := by decide +kernel
theorem dX5_waysOfSet_31 : decode cX5_waysOfSet 31 = .ok (.aload_n 0, 1) := by decide +kernel
theorem dX5_waysOfSet_32 : decode cX5_waysOfSet 32 = .ok (.iload 5, 2) := by decide +kernel
theorem dX5_waysOfSet_34 : decode cX5_waysOfSet 34 = .ok (.iload_n 2, 1) := by decide +kernel
theorem dX5_waysOfSet_35 : decode cX5_waysOfSet 35 = .ok (.invokevirtual 64, 3) := by decide +kernel
theorem dX5_waysOfSet_38 : decode cX5_waysOfSet 38 = .ok (.ifCond .eq 36, 3) := by decide +kernel
theorem dX5_waysOfSet_41 : decode cX5_waysOfSet 41 = .ok (.lload_n 3, 1) := by decide +kernel
theorem dX5_waysOfSet_42 : decode cX5_waysOfSet 42 = .ok (.iload 6, 2) := by decide +kernel
theorem dX5_waysOfSet_44 : decode cX5_waysOfSet 44 = .ok (.ifCond .eq 14, 3) := by decide +kernel
theorem dX5_waysOfSet_47 : decode cX5_waysOfSet 47 = .ok (.aload_n 0, 1) := by decide +kernel
theorem dX5_waysOfSet_48 : decode cX5_waysOfSet 48 = .ok (.getfield 15, 3) := by decide +kernel
theorem dX5_waysOfSet_51 : decode cX5_waysOfSet 51 = .ok (.iload 5, 2) := by decide +kernel
theorem dX5_waysOfSet_53 : decode cX5_waysOfSet 53 = .ok (.iaload, 1) := by decide +kernel
theorem dX5_waysOfSet_54 : decode cX5_waysOfSet 54 = .ok (.i2l, 1) := by decide +kernel
theorem dX5_waysOfSet_55 : decode cX5_waysOfSet 55 = .ok (.goto 14, 3) := by decide +kernel
theorem dX5_waysOfSet_58 : decode cX5_waysOfSet 58 = .ok (.bipush 8, 2) := by decide +kernel
theorem dX5_waysOfSet_60 : decode cX5_waysOfSet 60 = .ok (.aload_n 0, 1) := by decide +kernel
theorem dX5_waysOfSet_61 : decode cX5_waysOfSet 61 = .ok (.getfield 15, 3) := by decide +kernel
theorem dX5_waysOfSet_64 : decode cX5_waysOfSet 64 = .ok (.iload 5, 2) := by decide +kernel
theorem dX5_waysOfSet_66 : decode cX5_waysOfSet 66 = .ok (.iaload, 1) := by decide +kernel
theorem dX5_waysOfSet_67 : decode cX5_waysOfSet 67 = .ok (.isub, 1) := by decide +kernel
theorem dX5_waysOfSet_68 : decode cX5_waysOfSet 68 = .ok (.i2l, 1) := by decide +kernel
theorem dX5_waysOfSet_69 : decode cX5_waysOfSet 69 = .ok (.lmul, 1) := by decide +kernel
theorem dX5_waysOfSet_70 : decode cX5_waysOfSet 70 = .ok (.lstore_n 3, 1) := by decide +kernel
theorem dX5_waysOfSet_71 : decode cX5_waysOfSet 71 = .ok (.goto 10, 3) := by decide +kernel
theorem dX5_waysOfSet_74 : decode cX5_waysOfSet 74 = .ok (.iload 6, 2) := by decide +kernel
theorem dX5_waysOfSet_76 : decode cX5_waysOfSet 76 = .ok (.ifCond .eq 5, 3) := by decide +kernel
theorem dX5_waysOfSet_79 : decode cX5_waysOfSet 79 = .ok (.lconst 0, 1) := by decide +kernel
theorem dX5_waysOfSet_80 : decode cX5_waysOfSet 80 = .ok (.lreturn, 1) := by decide +kernel
theorem dX5_waysOfSet_81 : decode cX5_waysOfSet 81 = .ok (.iinc 5 1, 3) := by decide +kernel
theorem dX5_waysOfSet_84 : decode cX5_waysOfSet 84 = .ok (.goto (-79), 3) := by decide +kernel
theorem dX5_waysOfSet_87 : decode cX5_waysOfSet 87 = .ok (.lload_n 3, 1) := by decide +kernel
theorem dX5_waysOfSet_88 : decode cX5_waysOfSet 88 = .ok (.lreturn, 1) := by decide +kernel
theorem dX6_init_0 : decode cX6_init 0 = .ok (.aload_n 0, 1) := by decide +kernel
theorem dX6_init_1 : decode cX6_init 1 = .ok (.invokespecial 1, 3) := by decide +kernel
theorem dX6_init_4 : decode cX6_init 4 = .ok (.aload_n 0, 1) := by decide +kernel
theorem dX6_init_5 : decode cX6_init 5 = .ok (.aload_n 1, 1) := by decide +kernel
theorem dX6_init_6 : decode cX6_init 6 = .ok (.putfield 7, 3) := by decide +kernel
theorem dX6_init_9 : decode cX6_init 9 = .ok (.return_, 1) := by decide +kernel
theorem dX6_copyIds_0 : decode cX6_copyIds 0 = .ok (.aload_n 1, 1) := by decide +kernel
theorem dX6_copyIds_1 : decode cX6_copyIds 1 = .ok (.getfield 7, 3) := by decide +kernel
theorem dX6_copyIds_4 : decode cX6_copyIds 4 = .ok (.aload_n 0, 1) := by decide +kernel
theorem dX6_copyIds_5 : decode cX6_copyIds 5 = .ok (.getfield 7, 3) := by decide +kernel
theorem dX6_copyIds_8 : decode cX6_copyIds 8 = .ok (.invokestatic 13, 3) := by decide +kernel
theorem dX6_copyIds_11 : decode cX6_copyIds 11 = .ok (.aload_n 0, 1) := by decide +kernel
theorem dX6_copyIds_12 : decode cX6_copyIds 12 = .ok (.aload_n 1, 1) := by decide +kernel
theorem dX6_copyIds_13 : decode cX6_copyIds 13 = .ok (.getfield 19, 3) := by decide +kernel
theorem dX6_copyIds_16 : decode cX6_copyIds 16 = .ok (.putfield 19, 3) := by decide +kernel
theorem dX6_copyIds_19 : decode cX6_copyIds 19 = .ok (.aload_n 0, 1) := by decide +kernel
theorem dX6_copyIds_20 : decode cX6_copyIds 20 = .ok (.aload_n 1, 1) := by decide +kernel
theorem dX6_copyIds_21 : decode cX6_copyIds 21 = .ok (.getfield 23, 3) := by decide +kernel
theorem dX6_copyIds_24 : decode cX6_copyIds 24 = .ok (.putfield 23, 3) := by decide +kernel
theorem dX6_copyIds_27 : decode cX6_copyIds 27 = .ok (.return_, 1) := by decide +kernel
theorem dX6_placeOf_0 : decode cX6_placeOf 0 = .ok (.aload_n 0, 1) := by decide +kernel
theorem dX6_placeOf_1 : decode cX6_placeOf 1 = .ok (.getfield 7, 3) := by decide +kernel
theorem dX6_placeOf_4 : decode cX6_placeOf 4 = .ok (.aload_n 0, 1) := by decide +kernel
theorem dX6_placeOf_5 : decode cX6_placeOf 5 = .ok (.getfield 19, 3) := by decide +kernel
theorem dX6_placeOf_8 : decode cX6_placeOf 8 = .ok (.iload_n 1, 1) := by decide +kernel
theorem dX6_placeOf_9 : decode cX6_placeOf 9 = .ok (.invokestatic 26, 3) := by decide +kernel
theorem dX6_placeOf_12 : decode cX6_placeOf 12 = .ok (.istore_n 2, 1) := by decide +kernel
theorem dX6_placeOf_13 : decode cX6_placeOf 13 = .ok (.iload_n 2, 1) := by decide +kernel
theorem dX6_placeOf_14 : decode cX6_placeOf 14 = .ok (.ifCond .ge 13, 3) := by decide +kernel
theorem dX6_placeOf_17 : decode cX6_placeOf 17 = .ok (.new 30, 3) := by decide +kernel
theorem dX6_placeOf_20 : decode cX6_placeOf 20 = .ok (.dup, 1) := by decide +kernel
theorem dX6_placeOf_21 : decode cX6_placeOf 21 = .ok (.ldc 32, 2) := by decide +kernel
theorem dX6_placeOf_23 : decode cX6_placeOf 23 = .ok (.invokespecial 34, 3) := by decide +kernel
theorem dX6_placeOf_26 : decode cX6_placeOf 26 = .ok (.athrow, 1) := by decide +kernel
theorem dX6_placeOf_27 : decode cX6_placeOf 27 = .ok (.iload_n 2, 1) := by decide +kernel
theorem dX6_placeOf_28 : decode cX6_placeOf 28 = .ok (.ireturn, 1) := by decide +kernel
theorem dX6_takePlace_0 : decode cX6_takePlace 0 = .ok (.aload_n 0, 1) := by decide +kernel
theorem dX6_takePlace_1 : decode cX6_takePlace 1 = .ok (.getfield 19, 3) := by decide +kernel
theorem dX6_takePlace_4 : decode cX6_takePlace 4 = .ok (.aload_n 0, 1) := by decide +kernel
theorem dX6_takePlace_5 : decode cX6_takePlace 5 = .ok (.getfield 7, 3) := by decide +kernel
theorem dX6_takePlace_8 : decode cX6_takePlace 8 = .ok (.arraylength, 1) := by decide +kernel
theorem dX6_takePlace_9 : decode cX6_takePlace 9 = .ok (.invokestatic 37, 3) := by decide +kernel
theorem dX6_takePlace_12 : decode cX6_takePlace 12 = .ok (.istore_n 1, 1) := by decide +kernel
theorem dX6_takePlace_13 : decode cX6_takePlace 13 = .ok (.aload_n 0, 1) := by decide +kernel
theorem dX6_takePlace_14 : decode cX6_takePlace 14 = .ok (.getfield 7, 3) := by decide +kernel
theorem dX6_takePlace_17 : decode cX6_takePlace 17 = .ok (.iload_n 1, 1) := by decide +kernel
theorem dX6_takePlace_18 : decode cX6_takePlace 18 = .ok (.aload_n 0, 1) := by decide +kernel
theorem dX6_takePlace_19 : decode cX6_takePlace 19 = .ok (.getfield 23, 3) := by decide +kernel
theorem dX6_takePlace_22 : decode cX6_takePlace 22 = .ok (.iastore, 1) := by decide +kernel
theorem dX6_takePlace_23 : decode cX6_takePlace 23 = .ok (.aload_n 0, 1) := by decide +kernel
theorem dX6_takePlace_24 : decode cX6_takePlace 24 = .ok (.dup, 1) := by decide +kernel
theorem dX6_takePlace_25 : decode cX6_takePlace 25 = .ok (.getfield 23, 3) := by decide +kernel
theorem dX6_takePlace_28 : decode cX6_takePlace 28 = .ok (.iconst 1, 1) := by decide +kernel
theorem dX6_takePlace_29 : decode cX6_takePlace 29 = .ok (.iadd, 1) := by decide +kernel
theorem dX6_takePlace_30 : decode cX6_takePlace 30 = .ok (.putfield 23, 3) := by decide +kernel
theorem dX6_takePlace_33 : decode cX6_takePlace 33 = .ok (.aload_n 0, 1) := by decide +kernel
theorem dX6_takePlace_34 : decode cX6_takePlace 34 = .ok (.dup, 1) := by decide +kernel
theorem dX6_takePlace_35 : decode cX6_takePlace 35 = .ok (.getfield 19, 3) := by decide +kernel
theorem dX6_takePlace_38 : decode cX6_takePlace 38 = .ok (.iconst 1, 1) := by decide +kernel
theorem dX6_takePlace_39 : decode cX6_takePlace 39 = .ok (.iadd, 1) := by decide +kernel
theorem dX6_takePlace_40 : decode cX6_takePlace 40 = .ok (.putfield 19, 3) := by decide +kernel
theorem dX6_takePlace_43 : decode cX6_takePlace 43 = .ok (.iload_n 1, 1) := by decide +kernel
theorem dX6_takePlace_44 : decode cX6_takePlace 44 = .ok (.ireturn, 1) := by decide +kernel
theorem dX6_removeId_0 : decode cX6_removeId 0 = .ok (.aload_n 0, 1) := by decide +kernel
theorem dX6_removeId_1 : decode cX6_removeId 1 = .ok (.getfield 7, 3) := by decide +kernel
theorem dX6_removeId_4 : decode cX6_removeId 4 = .ok (.iload_n 1, 1) := by decide +kernel
theorem dX6_removeId_5 : decode cX6_removeId 5 = .ok (.invokestatic 41, 3) := by decide +kernel
theorem dX6_removeId_8 : decode cX6_removeId 8 = .ok (.aload_n 0, 1) := by decide +kernel
theorem dX6_removeId_9 : decode cX6_removeId 9 = .ok (.dup, 1) := by decide +kernel
theorem dX6_removeId_10 : decode cX6_removeId 10 = .ok (.getfield 19, 3) := by decide +kernel
theorem dX6_removeId_13 : decode cX6_removeId 13 = .ok (.iconst 1, 1) := by decide +kernel
theorem dX6_removeId_14 : decode cX6_removeId 14 = .ok (.isub, 1) := by decide +kernel
theorem dX6_removeId_15 : decode cX6_removeId 15 = .ok (.putfield 19, 3) := by decide +kernel
theorem dX6_removeId_18 : decode cX6_removeId 18 = .ok (.return_, 1) := by decide +kernel
theorem dX6_idAtRank_0 : decode cX6_idAtRank 0 = .ok (.iconst 0, 1) := by decide +kernel
theorem dX6_idAtRank_1 : decode cX6_idAtRank 1 = .ok (.istore_n 2, 1) := by decide +kernel
theorem dX6_idAtRank_2 : decode cX6_idAtRank 2 = .ok (.iload_n 2, 1) := by decide +kernel
theorem dX6_idAtRank_3 : decode cX6_idAtRank 3 = .ok (.aload_n 0, 1) := by decide +kernel
theorem dX6_idAtRank_4 : decode cX6_idAtRank 4 = .ok (.getfield 19, 3) := by decide +kernel
theorem dX6_idAtRank_7 : decode cX6_idAtRank 7 = .ok (.if_icmp .ge 25, 3) := by decide +kernel
theorem dX6_idAtRank_10 : decode cX6_idAtRank 10 = .ok (.aload_n 0, 1) := by decide +kernel
theorem dX6_idAtRank_11 : decode cX6_idAtRank 11 = .ok (.iload_n 2, 1) := by decide +kernel
theorem dX6_idAtRank_12 : decode cX6_idAtRank 12 = .ok (.invokevirtual 45, 3) := by decide +kernel
theorem dX6_idAtRank_15 : decode cX6_idAtRank 15 = .ok (.iload_n 1, 1) := by decide +kernel
theorem dX6_idAtRank_16 : decode cX6_idAtRank 16 = .ok (.if_icmp .ne 10, 3) := by decide +kernel
theorem dX6_idAtRank_19 : decode cX6_idAtRank 19 = .ok (.aload_n 0, 1) := by decide +kernel
theorem dX6_idAtRank_20 : decode cX6_idAtRank 20 = .ok (.getfield 7, 3) := by decide +kernel
theorem dX6_idAtRank_23 : decode cX6_idAtRank 23 = .ok (.iload_n 2, 1) := by decide +kernel
theorem dX6_idAtRank_24 : decode cX6_idAtRank 24 = .ok (.iaload, 1) := by decide +kernel
theorem dX6_idAtRank_25 : decode cX6_idAtRank 25 = .ok (.ireturn, 1) := by decide +kernel
theorem dX6_idAtRank_26 : decode cX6_idAtRank 26 = .ok (.iinc 2 1, 3) := by decide +kernel
theorem dX6_idAtRank_29 : decode cX6_idAtRank 29 = .ok (.goto (-27), 3) := by decide +kernel
theorem dX6_idAtRank_32 : decode cX6_idAtRank 32 = .ok (.new 30, 3) := by decide +kernel
theorem dX6_idAtRank_35 : decode cX6_idAtRank 35 = .ok (.dup, 1) := by decide +kernel
theorem dX6_idAtRank_36 : decode cX6_idAtRank 36 = .ok (.ldc 49, 2) := by decide +kernel
theorem dX6_idAtRank_38 : decode cX6_idAtRank 38 = .ok (.invokespecial 34, 3) := by decide +kernel
theorem dX6_idAtRank_41 : decode cX6_idAtRank 41 = .ok (.athrow, 1) := by decide +kernel
theorem dX6_countAhead_0 : decode cX6_countAhead 0 = .ok (.iconst 0, 1) := by decide +kernel
theorem dX6_countAhead_1 : decode cX6_countAhead 1 = .ok (.istore_n 2, 1) := by decide +kernel
theorem dX6_countAhead_2 : decode cX6_countAhead 2 = .ok (.iconst 0, 1) := by decide +kernel
theorem dX6_countAhead_3 : decode cX6_countAhead 3 = .ok (.istore_n 3, 1) := by decide +kernel
theorem dX6_countAhead_4 : decode cX6_countAhead 4 = .ok (.iload_n 3, 1) := by decide +kernel
theorem dX6_countAhead_5 : decode cX6_countAhead 5 = .ok (.aload_n 0, 1) := by decide +kernel
theorem dX6_countAhead_6 : decode cX6_countAhead 6 = .ok (.getfield 19, 3) := by decide +kernel
theorem dX6_countAhead_9 : decode cX6_countAhead 9 = .ok (.if_icmp .ge 21, 3) := by decide +kernel
theorem dX6_countAhead_12 : decode cX6_countAhead 12 = .ok (.aload_n 0, 1) := by decide +kernel
theorem dX6_countAhead_13 : decode cX6_countAhead 13 = .ok (.iload_n 3, 1) := by decide +kernel
theorem dX6_countAhead_14 : decode cX6_countAhead 14 = .ok (.iload_n 1, 1) := by decide +kernel
theorem dX6_countAhead_15 : decode cX6_countAhead 15 = .ok (.invokevirtual 51, 3) := by decide +kernel
theorem dX6_countAhead_18 : decode cX6_countAhead 18 = .ok (.ifCond .eq 6, 3) := by decide +kernel
theorem dX6_countAhead_21 : decode cX6_countAhead 21 = .ok (.iinc 2 1, 3) := by decide +kernel
theorem dX6_countAhead_24 : decode cX6_countAhead 24 = .ok (.iinc 3 1, 3) := by decide +kernel
theorem dX6_countAhead_27 : decode cX6_countAhead 27 = .ok (.goto (-23), 3) := by decide +kernel
theorem dX6_countAhead_30 : decode cX6_countAhead 30 = .ok (.iload_n 2, 1) := by decide +kernel
theorem dX6_countAhead_31 : decode cX6_countAhead 31 = .ok (.ireturn, 1) := by decide +kernel
theorem dX7_init_0 : decode cX7_init 0 = .ok (.aload_n 0, 1) := by decide +kernel
theorem dX7_init_1 : decode cX7_init 1 = .ok (.invokespecial 3, 3) := by decide +kernel
theorem dX7_init_4 : decode cX7_init 4 = .ok (.aload_n 0, 1) := by decide +kernel
theorem dX7_init_5 : decode cX7_init 5 = .ok (.new 9, 3) := by decide +kernel
theorem dX7_init_8 : decode cX7_init 8 = .ok (.dup, 1) := by decide +kernel
theorem dX7_init_9 : decode cX7_init 9 = .ok (.invokespecial 11, 3) := by decide +kernel
theorem dX7_init_12 : decode cX7_init 12 = .ok (.putfield 12, 3) := by decide +kernel
theorem dX7_init_15 : decode cX7_init 15 = .ok (.aload_n 0, 1) := by decide +kernel
theorem dX7_init_16 : decode cX7_init 16 = .ok (.iconst 4, 1) := by decide +kernel
theorem dX7_init_17 : decode cX7_init 17 = .ok (.newarray .int, 2) := by decide +kernel
theorem dX7_init_19 : decode cX7_init 19 = .ok (.putfield 18, 3) := by decide +kernel
theorem dX7_init_22 : decode cX7_init 22 = .ok (.return_, 1) := by decide +kernel
theorem dX7_append_0 : decode cX7_append 0 = .ok (.aload_n 0, 1) := by decide +kernel
theorem dX7_append_1 : decode cX7_append 1 = .ok (.getfield 12, 3) := by decide +kernel
theorem dX7_append_4 : decode cX7_append 4 = .ok (.invokevirtual 22, 3) := by decide +kernel
theorem dX7_append_7 : decode cX7_append 7 = .ok (.bipush 60, 2) := by decide +kernel
theorem dX7_append_9 : decode cX7_append 9 = .ok (.if_icmp .lt 13, 3) := by decide +kernel
theorem dX7_append_12 : decode cX7_append 12 = .ok (.new 26, 3) := by decide +kernel
theorem dX7_append_15 : decode cX7_append 15 = .ok (.dup, 1) := by decide +kernel
theorem dX7_append_16 : decode cX7_append 16 = .ok (.ldc 28, 2) := by decide +kernel
theorem dX7_append_18 : decode cX7_append 18 = .ok (.invokespecial 30, 3) := by decide +kernel
theorem dX7_append_21 : decode cX7_append 21 = .ok (.athrow, 1) := by decide +kernel
theorem dX7_append_22 : decode cX7_append 22 = .ok (.aload_n 0, 1) := by decide +kernel
theorem dX7_append_23 : decode cX7_append 23 = .ok (.getfield 12, 3) := by decide +kernel
theorem dX7_append_26 : decode cX7_append 26 = .ok (.iload_n 1, 1) := by decide +kernel
theorem dX7_append_27 : decode cX7_append 27 = .ok (.invokevirtual 33, 3) := by decide +kernel
theorem dX7_append_30 : decode cX7_append 30 = .ok (.pop, 1) := by decide +kernel
theorem dX7_append_31 : decode cX7_append 31 = .ok (.aload_n 0, 1) := by decide +kernel
theorem dX7_append_32 : decode cX7_append 32 = .ok (.getfield 12, 3) := by decide +kernel
theorem dX7_append_35 : decode cX7_append 35 = .ok (.invokevirtual 22, 3) := by decide +kernel
theorem dX7_append_38 : decode cX7_append 38 = .ok (.ireturn, 1) := by decide +kernel
theorem dX7_empty_0 : decode cX7_empty 0 = .ok (.aload_n 0, 1) := by decide +kernel
theorem dX7_empty_1 : decode cX7_empty 1 = .ok (.getfield 12, 3) := by decide +kernel
theorem dX7_empty_4 : decode cX7_empty 4 = .ok (.iconst 0, 1) := by decide +kernel
theorem dX7_empty_5 : decode cX7_empty 5 = .ok (.invokevirtual 37, 3) := by decide +kernel
theorem dX7_empty_8 : decode cX7_empty 8 = .ok (.return_, 1) := by decide +kernel
theorem dX7_countCommands_0 : decode cX7_countCommands 0 = .ok (.aload_n 0, 1) := by decide +kernel
theorem dX7_countCommands_1 : decode cX7_countCommands 1 = .ok (.iconst 0, 1) := by decide +kernel
theorem dX7_countCommands_2 : decode cX7_countCommands 2 = .ok (.putfield 41, 3) := by decide +kernel
theorem dX7_countCommands_5 : decode cX7_countCommands 5 = .ok (.iconst 1, 1) := by decide +kernel
theorem dX7_countCommands_6 : decode cX7_countCommands 6 = .ok (.istore_n 1, 1) := by decide +kernel
theorem dX7_countCommands_7 : decode cX7_countCommands 7 = .ok (.iload_n 1, 1) := by decide +kernel
theorem dX7_countCommands_8 : decode cX7_countCommands 8 = .ok (.bipush 60, 2) := by decide +kernel
theorem dX7_countCommands_10 : decode cX7_countCommands 10 = .ok (.if_icmp .gt 62, 3) := by decide +kernel
theorem dX7_countCommands_13 : decode cX7_countCommands 13 = .ok (.aload_n 0, 1) := by decide +kernel
theorem dX7_countCommands_14 : decode cX7_countCommands 14 = .ok (.invokevirtual 45, 3) := by decide +kernel
theorem dX7_countCommands_17 : decode cX7_countCommands 17 = .ok (.ifCond .ne 5, 3) := by decide +kernel
theorem dX7_countCommands_20 : decode cX7_countCommands 20 = .ok (.iconst (-1), 1) := by decide +kernel
theorem dX7_countCommands_21 : decode cX7_countCommands 21 = .ok (.ireturn, 1) := by decide +kernel
theorem dX7_countCommands_22 : decode cX7_countCommands 22 = .ok (.aload_n 0, 1) := by decide +kernel
theorem dX7_countCommands_23 : decode cX7_countCommands 23 = .ok (.getfield 41, 3) := by decide +kernel
theorem dX7_countCommands_26 : decode cX7_countCommands 26 = .ok (.aload_n 0, 1) := by decide +kernel
theorem dX7_countCommands_27 : decode cX7_countCommands 27 = .ok (.getfield 12, 3) := by decide +kernel
theorem dX7_countCommands_30 : decode cX7_countCommands 30 = .ok (.invokevirtual 22, 3) := by decide +kernel
theorem dX7_countCommands_33 : decode cX7_countCommands 33 = .ok (.if_icmp .lt 5, 3) := by decide +kernel
theorem dX7_countCommands_36 : decode cX7_countCommands 36 = .ok (.iload_n 1, 1) := by decide +kernel
theorem dX7_countCommands_37 : decode cX7_countCommands 37 = .ok (.ireturn, 1) := by decide +kernel
theorem dX7_countCommands_38 : decode cX7_countCommands 38 = .ok (.aload_n 0, 1) := by decide +kernel
theorem dX7_countCommands_39 : decode cX7_countCommands 39 = .ok (.getfield 12, 3) := by decide +kernel
theorem dX7_countCommands_42 : decode cX7_countCommands 42 = .ok (.aload_n 0, 1) := by decide +kernel
theorem dX7_countCommands_43 : decode cX7_countCommands 43 = .ok (.getfield 41, 3) := by decide +kernel
theorem dX7_countCommands_46 : decode cX7_countCommands 46 = .ok (.invokevirtual 49, 3) := by decide +kernel
theorem dX7_countCommands_49 : decode cX7_countCommands 49 = .ok (.bipush 59, 2) := by decide +kernel
theorem dX7_countCommands_51 : decode cX7_countCommands 51 = .ok (.if_icmp .eq 5, 3) := by decide +kernel
theorem dX7_countCommands_54 : decode cX7_countCommands 54 = .ok (.iconst (-1), 1) := by decide +kernel
theorem dX7_countCommands_55 : decode cX7_countCommands 55 = .ok (.ireturn, 1) := by decide +kernel
theorem dX7_countCommands_56 : decode cX7_countCommands 56 = .ok (.aload_n 0, 1) := by decide +kernel
theorem dX7_countCommands_57 : decode cX7_countCommands 57 = .ok (.dup, 1) := by decide +kernel
theorem dX7_countCommands_58 : decode cX7_countCommands 58 = .ok (.getfield 41, 3) := by decide +kernel
theorem dX7_countCommands_61 : decode cX7_countCommands 61 = .ok (.iconst 1, 1) := by decide +kernel
theorem dX7_countCommands_62 : decode cX7_countCommands 62 = .ok (.iadd, 1) := by decide +kernel
theorem dX7_countCommands_63 : decode cX7_countCommands 63 = .ok (.putfield 41, 3) := by decide +kernel
theorem dX7_countCommands_66 : decode cX7_countCommands 66 = .ok (.iinc 1 1, 3) := by decide +kernel
theorem dX7_countCommands_69 : decode cX7_countCommands 69 = .ok (.goto (-62), 3) := by decide +kernel
theorem dX7_countCommands_72 : decode cX7_countCommands 72 = .ok (.iconst (-1), 1) := by decide +kernel
theorem dX7_countCommands_73 : decode cX7_countCommands 73 = .ok (.ireturn, 1) := by decide +kernel
theorem dX7_firstFailure_0 : decode cX7_firstFailure 0 = .ok (.aload_n 0, 1) := by decide +kernel
theorem dX7_firstFailure_1 : decode cX7_firstFailure 1 = .ok (.iconst 0, 1) := by decide +kernel
theorem dX7_firstFailure_2 : decode cX7_firstFailure 2 = .ok (.putfield 41, 3) := by decide +kernel
theorem dX7_firstFailure_5 : decode cX7_firstFailure 5 = .ok (.iconst 0, 1) := by decide +kernel
theorem dX7_firstFailure_6 : decode cX7_firstFailure 6 = .ok (.istore_n 3, 1) := by decide +kernel
theorem dX7_firstFailure_7 : decode cX7_firstFailure 7 = .ok (.iload_n 3, 1) := by decide +kernel
theorem dX7_firstFailure_8 : decode cX7_firstFailure 8 = .ok (.iload_n 2, 1) := by decide +kernel
theorem dX7_firstFailure_9 : decode cX7_firstFailure 9 = .ok (.if_icmp .ge 36, 3) := by decide +kernel
theorem dX7_firstFailure_12 : decode cX7_firstFailure 12 = .ok (.aload_n 0, 1) := by decide +kernel
theorem dX7_firstFailure_13 : decode cX7_firstFailure 13 = .ok (.invokevirtual 45, 3) := by decide +kernel
theorem dX7_firstFailure_16 : decode cX7_firstFailure 16 = .ok (.ifCond .eq 11, 3) := by decide +kernel
theorem dX7_firstFailure_19 : decode cX7_firstFailure 19 = .ok (.aload_n 0, 1) := by decide +kernel
theorem dX7_firstFailure_20 : decode cX7_firstFailure 20 = .ok (.aload_n 1, 1) := by decide +kernel
theorem dX7_firstFailure_21 : decode cX7_firstFailure 21 = .ok (.invokevirtual 53, 3) := by decide +kernel
theorem dX7_firstFailure_24 : decode cX7_firstFailure 24 = .ok (.ifCond .ne 5, 3) := by decide +kernel
theorem dX7_firstFailure_27 : decode cX7_firstFailure 27 = .ok (.iload_n 3, 1) := by decide +kernel
theorem dX7_firstFailure_28 : decode cX7_firstFailure 28 = .ok (.ireturn, 1) := by decide +kernel
theorem dX7_firstFailure_29 : decode cX7_firstFailure 29 = .ok (.aload_n 0, 1) := by decide +kernel
theorem dX7_firstFailure_30 : decode cX7_firstFailure 30 = .ok (.dup, 1) := by decide +kernel
theorem dX7_firstFailure_31 : decode cX7_firstFailure 31 = .ok (.getfield 41, 3) := by decide +kernel
theorem dX7_firstFailure_34 : decode cX7_firstFailure 34 = .ok (.iconst 1, 1) := by decide +kernel
theorem dX7_firstFailure_35 : decode cX7_firstFailure 35 = .ok (.iadd, 1) := by decide +kernel
theorem dX7_firstFailure_36 : decode cX7_firstFailure 36 = .ok (.putfield 41, 3) := by decide +kernel
theorem dX7_firstFailure_39 : decode cX7_firstFailure 39 = .ok (.iinc 3 1, 3) := by decide +kernel
theorem dX7_firstFailure_42 : decode cX7_firstFailure 42 = .ok (.goto (-35), 3) := by decide +kernel
theorem dX7_firstFailure_45 : decode cX7_firstFailure 45 = .ok (.iconst (-1), 1) := by decide +kernel
theorem dX7_firstFailure_46 : decode cX7_firstFailure 46 = .ok (.ireturn, 1) := by decide +kernel
theorem dX7_readCommand_0 : decode cX7_readCommand 0 = .ok (.aload_n 0, 1) := by decide +kernel
theorem dX7_readCommand_1 : decode cX7_readCommand 1 = .ok (.getfield 41, 3) := by decide +kernel
theorem dX7_readCommand_4 : decode cX7_readCommand 4 = .ok (.istore_n 1, 1) := by decide +kernel
theorem dX7_readCommand_5 : decode cX7_readCommand 5 = .ok (.iload_n 1, 1) := by decide +kernel
theorem dX7_readCommand_6 : decode cX7_readCommand 6 = .ok (.istore_n 2, 1) := by decide +kernel
theorem dX7_readCommand_7 : decode cX7_readCommand 7 = .ok (.iconst 0, 1) := by decide +kernel
theorem dX7_readCommand_8 : decode cX7_readCommand 8 = .ok (.istore_n 3, 1) := by decide +kernel
theorem dX7_readCommand_9 : decode cX7_readCommand 9 = .ok (.iload_n 3, 1) := by decide +kernel
theorem dX7_readCommand_10 : decode cX7_readCommand 10 = .ok (.getstatic 57, 3) := by decide +kernel
theorem dX7_readCommand_13 : decode cX7_readCommand 13 = .ok (.arraylength, 1) := by decide +kernel
theorem dX7_readCommand_14 : decode cX7_readCommand 14 = .ok (.if_icmp .ge 49, 3) := by decide +kernel
theorem dX7_readCommand_17 : decode cX7_readCommand 17 = .ok (.aload_n 0, 1) := by decide +kernel
theorem dX7_readCommand_18 : decode cX7_readCommand 18 = .ok (.iload_n 1, 1) := by decide +kernel
theorem dX7_readCommand_19 : decode cX7_readCommand 19 = .ok (.putfield 41, 3) := by decide +kernel
theorem dX7_readCommand_22 : decode cX7_readCommand 22 = .ok (.aload_n 0, 1) := by decide +kernel
theorem dX7_readCommand_23 : decode cX7_readCommand 23 = .ok (.getstatic 57, 3) := by decide +kernel
theorem dX7_readCommand_26 : decode cX7_readCommand 26 = .ok (.iload_n 3, 1) := by decide +kernel
theorem dX7_readCommand_27 : decode cX7_readCommand 27 = .ok (.aaload, 1) := by decide +kernel
theorem dX7_readCommand_28 : decode cX7_readCommand 28 = .ok (.getfield 63, 3) := by decide +kernel
theorem dX7_readCommand_31 : decode cX7_readCommand 31 = .ok (.invokevirtual 67, 3) := by decide +kernel
theorem dX7_readCommand_34 : decode cX7_readCommand 34 = .ok (.ifCond .eq 14, 3) := by decide +kernel
theorem dX7_readCommand_37 : decode cX7_readCommand 37 = .ok (.aload_n 0, 1) := by decide +kernel
theorem dX7_readCommand_38 : decode cX7_readCommand 38 = .ok (.getstatic 57, 3) := by decide +kernel
theorem dX7_readCommand_41 : decode cX7_readCommand 41 = .ok (.iload_n 3, 1) := by decide +kernel
theorem dX7_readCommand_42 : decode cX7_readCommand 42 = .ok (.aaload, 1) := by decide +kernel
theorem dX7_readCommand_43 : decode cX7_readCommand 43 = .ok (.putfield 71, 3) := by decide +kernel
theorem dX7_readCommand_46 : decode cX7_readCommand 46 = .ok (.iconst 1, 1) := by decide +kernel
theorem dX7_readCommand_47 : decode cX7_readCommand 47 = .ok (.ireturn, 1) := by decide +kernel
theorem dX7_readCommand_48 : decode cX7_readCommand 48 = .ok (.iload_n 2, 1) := by decide +kernel
theorem dX7_readCommand_49 : decode cX7_readCommand 49 = .ok (.aload_n 0, 1) := by decide +kernel
theorem dX7_readCommand_50 : decode cX7_readCommand 50 = .ok (.getfield 41, 3) := by decide +kernel
theorem dX7_readCommand_53 : decode cX7_readCommand 53 = .ok (.invokestatic 75, 3) := by decide +kernel
theorem dX7_readCommand_56 : decode cX7_readCommand 56 = .ok (.istore_n 2, 1) := by decide +kernel
theorem dX7_readCommand_57 : decode cX7_readCommand 57 = .ok (.iinc 3 1, 3) := by decide +kernel
theorem dX7_readCommand_60 : decode cX7_readCommand 60 = .ok (.goto (-51), 3) := by decide +kernel
theorem dX7_readCommand_63 : decode cX7_readCommand 63 = .ok (.aload_n 0, 1) := by decide +kernel
theorem dX7_readCommand_64 : decode cX7_readCommand 64 = .ok (.iload_n 2, 1) := by decide +kernel
theorem dX7_readCommand_65 : decode cX7_readCommand 65 = .ok (.putfield 41, 3) := by decide +kernel
theorem dX7_readCommand_68 : decode cX7_readCommand 68 = .ok (.iconst 0, 1) := by decide +kernel
theorem dX7_readCommand_69 : decode cX7_readCommand 69 = .ok (.ireturn, 1) := by decide +kernel
theorem dX7_fits_0 : decode cX7_fits 0 = .ok (.iconst 0, 1) := by decide +kernel
theorem dX7_fits_1 : decode cX7_fits 1 = .ok (.istore_n 2, 1) := by decide +kernel
theorem dX7_fits_2 : decode cX7_fits 2 = .ok (.iconst 0, 1) := by decide +kernel
theorem dX7_fits_3 : decode cX7_fits 3 = .ok (.istore_n 3, 1) := by decide +kernel
theorem dX7_fits_4 : decode cX7_fits 4 = .ok (.iload_n 3, 1) := by decide +kernel
theorem dX7_fits_5 : decode cX7_fits 5 = .ok (.aload_n 1, 1) := by decide +kernel
theorem dX7_fits_6 : decode cX7_fits 6 = .ok (.invokevirtual 81, 3) := by decide +kernel
theorem dX7_fits_9 : decode cX7_fits 9 = .ok (.if_icmp .ge 54, 3) := by decide +kernel
theorem dX7_fits_12 : decode cX7_fits 12 = .ok (.aload_n 0, 1) := by decide +kernel
theorem dX7_fits_13 : decode cX7_fits 13 = .ok (.aload_n 1, 1) := by decide +kernel
theorem dX7_fits_14 : decode cX7_fits 14 = .ok (.iload_n 3, 1) := by decide +kernel
theorem dX7_fits_15 : decode cX7_fits 15 = .ok (.invokevirtual 84, 3) := by decide +kernel
theorem dX7_fits_18 : decode cX7_fits 18 = .ok (.invokevirtual 85, 3) := by decide +kernel
theorem dX7_fits_21 : decode cX7_fits 21 = .ok (.istore 4, 2) := by decide +kernel
theorem dX7_fits_23 : decode cX7_fits 23 = .ok (.iload 4, 2) := by decide +kernel
theorem dX7_fits_25 : decode cX7_fits 25 = .ok (.ifCond .ge 5, 3) := by decide +kernel
theorem dX7_fits_28 : decode cX7_fits 28 = .ok (.iconst 0, 1) := by decide +kernel
theorem dX7_fits_29 : decode cX7_fits 29 = .ok (.ireturn, 1) := by decide +kernel
theorem dX7_fits_30 : decode cX7_fits 30 = .ok (.aload_n 1, 1) := by decide +kernel
theorem dX7_fits_31 : decode cX7_fits 31 = .ok (.iload_n 3, 1) := by decide +kernel
theorem dX7_fits_32 : decode cX7_fits 32 = .ok (.invokevirtual 84, 3) := by decide +kernel
theorem dX7_fits_35 : decode cX7_fits 35 = .ok (.invokestatic 89, 3) := by decide +kernel
theorem dX7_fits_38 : decode cX7_fits 38 = .ok (.ifCond .eq 19, 3) := by decide +kernel
theorem dX7_fits_41 : decode cX7_fits 41 = .ok (.iload_n 2, 1) := by decide +kernel
theorem dX7_fits_42 : decode cX7_fits 42 = .ok (.iconst 4, 1) := by decide +kernel
theorem dX7_fits_43 : decode cX7_fits 43 = .ok (.if_icmp .ge 14, 3) := by decide +kernel
theorem dX7_fits_46 : decode cX7_fits 46 = .ok (.aload_n 0, 1) := by decide +kernel
theorem dX7_fits_47 : decode cX7_fits 47 = .ok (.getfield 18, 3) := by decide +kernel
theorem dX7_fits_50 : decode cX7_fits 50 = .ok (.iload_n 2, 1) := by decide +kernel
theorem dX7_fits_51 : decode cX7_fits 51 = .ok (.iload 4, 2) := by decide +kernel
theorem dX7_fits_53 : decode cX7_fits 53 = .ok (.iastore, 1) := by decide +kernel
theorem dX7_fits_54 : decode cX7_fits 54 = .ok (.iinc 2 1, 3) := by decide +kernel
theorem dX7_fits_57 : decode cX7_fits 57 = .ok (.iinc 3 1, 3) := by decide +kernel
theorem dX7_fits_60 : decode cX7_fits 60 = .ok (.goto (-56), 3) := by decide +kernel
theorem dX7_fits_63 : decode cX7_fits 63 = .ok (.iconst 1, 1) := by decide +kernel
theorem dX7_fits_64 : decode cX7_fits 64 = .ok (.ireturn, 1) := by decide +kernel
theorem dX7_isPlaceholder_0 : decode cX7_isPlaceholder 0 = .ok (.iload_n 0, 1) := by decide +kernel
theorem dX7_isPlaceholder_1 : decode cX7_isPlaceholder 1 = .ok (.bipush 78, 2) := by decide +kernel
theorem dX7_isPlaceholder_3 : decode cX7_isPlaceholder 3 = .ok (.if_icmp .eq 15, 3) := by decide +kernel
theorem dX7_isPlaceholder_6 : decode cX7_isPlaceholder 6 = .ok (.iload_n 0, 1) := by decide +kernel
theorem dX7_isPlaceholder_7 : decode cX7_isPlaceholder 7 = .ok (.bipush 68, 2) := by decide +kernel
theorem dX7_isPlaceholder_9 : decode cX7_isPlaceholder 9 = .ok (.if_icmp .eq 9, 3) := by decide +kernel
theorem dX7_isPlaceholder_12 : decode cX7_isPlaceholder 12 = .ok (.iload_n 0, 1) := by decide +kernel
theorem dX7_isPlaceholder_13 : decode cX7_isPlaceholder 13 = .ok (.bipush 67, 2) := by decide +kernel
theorem dX7_isPlaceholder_15 : decode cX7_isPlaceholder 15 = .ok (.if_icmp .ne 7, 3) := by decide +kernel
theorem dX7_isPlaceholder_18 : decode cX7_isPlaceholder 18 = .ok (.iconst 1, 1) := by decide +kernel
theorem dX7_isPlaceholder_19 : decode cX7_isPlaceholder 19 = .ok (.goto 4, 3) := by decide +kernel
theorem dX7_isPlaceholder_22 : decode cX7_isPlaceholder 22 = .ok (.iconst 0, 1) := by decide +kernel
theorem dX7_isPlaceholder_23 : decode cX7_isPlaceholder 23 = .ok (.ireturn, 1) := by decide +kernel
theorem dX7_readSign_0 : decode cX7_readSign 0 = .ok (.iload_n 1, 1) := by decide +kernel
theorem dX7_readSign_1 : decode cX7_readSign 1 = .ok (.bipush 78, 2) := by decide +kernel
theorem dX7_readSign_3 : decode cX7_readSign 3 = .ok (.if_icmp .ne 8, 3) := by decide +kernel
theorem dX7_readSign_6 : decode cX7_readSign 6 = .ok (.aload_n 0, 1) := by decide +kernel
theorem dX7_readSign_7 : decode cX7_readSign 7 = .ok (.invokevirtual 93, 3) := by decide +kernel
theorem dX7_readSign_10 : decode cX7_readSign 10 = .ok (.ireturn, 1) := by decide +kernel
theorem dX7_readSign_11 : decode cX7_readSign 11 = .ok (.iload_n 1, 1) := by decide +kernel
theorem dX7_readSign_12 : decode cX7_readSign 12 = .ok (.bipush 68, 2) := by decide +kernel
theorem dX7_readSign_14 : decode cX7_readSign 14 = .ok (.if_icmp .ne 10, 3) := by decide +kernel
theorem dX7_readSign_17 : decode cX7_readSign 17 = .ok (.aload_n 0, 1) := by decide +kernel
theorem dX7_readSign_18 : decode cX7_readSign 18 = .ok (.invokevirtual 96, 3) := by decide +kernel
theorem dX7_readSign_21 : decode cX7_readSign 21 = .ok (.goto 8, 3) := by decide +kernel
theorem dX7_readSign_24 : decode cX7_readSign 24 = .ok (.aload_n 0, 1) := by decide +kernel
theorem dX7_readSign_25 : decode cX7_readSign 25 = .ok (.iload_n 1, 1) := by decide +kernel
theorem dX7_readSign_26 : decode cX7_readSign 26 = .ok (.invokevirtual 99, 3) := by decide +kernel
theorem dX7_readSign_29 : decode cX7_readSign 29 = .ok (.ireturn, 1) := by decide +kernel
theorem dX7_readCharacter_0 : decode cX7_readCharacter 0 = .ok (.aload_n 0, 1) := by decide +kernel
theorem dX7_readCharacter_1 : decode cX7_readCharacter 1 = .ok (.getfield 41, 3) := by decide +kernel
theorem dX7_readCharacter_4 : decode cX7_readCharacter 4 = .ok (.aload_n 0, 1) := by decide +kernel
theorem dX7_readCharacter_5 : decode cX7_readCharacter 5 = .ok (.getfield 12, 3) := by decide +kernel
theorem dX7_readCharacter_8 : decode cX7_readCharacter 8 = .ok (.invokevirtual 22, 3) := by decide +kernel
theorem dX7_readCharacter_11 : decode cX7_readCharacter 11 = .ok (.if_icmp .lt 5, 3) := by decide +kernel
theorem dX7_readCharacter_14 : decode cX7_readCharacter 14 = .ok (.iconst (-1), 1) := by decide +kernel
theorem dX7_readCharacter_15 : decode cX7_readCharacter 15 = .ok (.ireturn, 1) := by decide +kernel
theorem dX7_readCharacter_16 : decode cX7_readCharacter 16 = .ok (.aload_n 0, 1) := by decide +kernel
theorem dX7_readCharacter_17 : decode cX7_readCharacter 17 = .ok (.getfield 12, 3) := by decide +kernel
theorem dX7_readCharacter_20 : decode cX7_readCharacter 20 = .ok (.aload_n 0, 1) := by decide +kernel
theorem dX7_readCharacter_21 : decode cX7_readCharacter 21 = .ok (.getfield 41, 3) := by decide +kernel
theorem dX7_readCharacter_24 : decode cX7_readCharacter 24 = .ok (.invokevirtual 49, 3) := by decide +kernel
theorem dX7_readCharacter_27 : decode cX7_readCharacter 27 = .ok (.istore_n 2, 1) := by decide +kernel
theorem dX7_readCharacter_28 : decode cX7_readCharacter 28 = .ok (.iload_n 1, 1) := by decide +kernel
theorem dX7_readCharacter_29 : decode cX7_readCharacter 29 = .ok (.bipush 67, 2) := by decide +kernel
theorem dX7_readCharacter_31 : decode cX7_readCharacter 31 = .ok (.if_icmp .ne 10, 3) := by decide +kernel
theorem dX7_readCharacter_34 : decode cX7_readCharacter 34 = .ok (.iload_n 2, 1) := by decide +kernel
theorem dX7_readCharacter_35 : decode cX7_readCharacter 35 = .ok (.invokestatic 102, 3) := by decide +kernel
theorem dX7_readCharacter_38 : decode cX7_readCharacter 38 = .ok (.goto 13, 3) := by decide +kernel
theorem dX7_readCharacter_41 : decode cX7_readCharacter 41 = .ok (.iload_n 2, 1) := by decide +kernel
theorem dX7_readCharacter_42 : decode cX7_readCharacter 42 = .ok (.iload_n 1, 1) := by decide +kernel
theorem dX7_readCharacter_43 : decode cX7_readCharacter 43 = .ok (.if_icmp .ne 7, 3) := by decide +kernel
theorem dX7_readCharacter_46 : decode cX7_readCharacter 46 = .ok (.iconst 1, 1) := by decide +kernel
theorem dX7_readCharacter_47 : decode cX7_readCharacter 47 = .ok (.goto 4, 3) := by decide +kernel
theorem dX7_readCharacter_50 : decode cX7_readCharacter 50 = .ok (.iconst 0, 1) := by decide +kernel
theorem dX7_readCharacter_51 : decode cX7_readCharacter 51 = .ok (.istore_n 3, 1) := by decide +kernel
theorem dX7_readCharacter_52 : decode cX7_readCharacter 52 = .ok (.iload_n 3, 1) := by decide +kernel
theorem dX7_readCharacter_53 : decode cX7_readCharacter 53 = .ok (.ifCond .ne 5, 3) := by decide +kernel
theorem dX7_readCharacter_56 : decode cX7_readCharacter 56 = .ok (.iconst (-1), 1) := by decide +kernel
theorem dX7_readCharacter_57 : decode cX7_readCharacter 57 = .ok (.ireturn, 1) := by decide +kernel
theorem dX7_readCharacter_58 : decode cX7_readCharacter 58 = .ok (.aload_n 0, 1) := by decide +kernel
theorem dX7_readCharacter_59 : decode cX7_readCharacter 59 = .ok (.dup, 1) := by decide +kernel
theorem dX7_readCharacter_60 : decode cX7_readCharacter 60 = .ok (.getfield 41, 3) := by decide +kernel
theorem dX7_readCharacter_63 : decode cX7_readCharacter 63 = .ok (.iconst 1, 1) := by decide +kernel
theorem dX7_readCharacter_64 : decode cX7_readCharacter 64 = .ok (.iadd, 1) := by decide +kernel
theorem dX7_readCharacter_65 : decode cX7_readCharacter 65 = .ok (.putfield 41, 3) := by decide +kernel
theorem dX7_readCharacter_68 : decode cX7_readCharacter 68 = .ok (.iload_n 2, 1) := by decide +kernel
theorem dX7_readCharacter_69 : decode cX7_readCharacter 69 = .ok (.ireturn, 1) := by decide +kernel
theorem dX7_readNumber_0 : decode cX7_readNumber 0 = .ok (.aload_n 0, 1) := by decide +kernel
theorem dX7_readNumber_1 : decode cX7_readNumber 1 = .ok (.invokevirtual 96, 3) := by decide +kernel
theorem dX7_readNumber_4 : decode cX7_readNumber 4 = .ok (.istore_n 1, 1) := by decide +kernel
theorem dX7_readNumber_5 : decode cX7_readNumber 5 = .ok (.iload_n 1, 1) := by decide +kernel
theorem dX7_readNumber_6 : decode cX7_readNumber 6 = .ok (.ifCond .ge 5, 3) := by decide +kernel
theorem dX7_readNumber_9 : decode cX7_readNumber 9 = .ok (.iconst (-1), 1) := by decide +kernel
theorem dX7_readNumber_10 : decode cX7_readNumber 10 = .ok (.ireturn, 1) := by decide +kernel
theorem dX7_readNumber_11 : decode cX7_readNumber 11 = .ok (.aload_n 0, 1) := by decide +kernel
theorem dX7_readNumber_12 : decode cX7_readNumber 12 = .ok (.invokevirtual 96, 3) := by decide +kernel
theorem dX7_readNumber_15 : decode cX7_readNumber 15 = .ok (.istore_n 2, 1) := by decide +kernel
theorem dX7_readNumber_16 : decode cX7_readNumber 16 = .ok (.iload_n 2, 1) := by decide +kernel
theorem dX7_readNumber_17 : decode cX7_readNumber 17 = .ok (.ifCond .ge 7, 3) := by decide +kernel
theorem dX7_readNumber_20 : decode cX7_readNumber 20 = .ok (.iload_n 1, 1) := by decide +kernel
theorem dX7_readNumber_21 : decode cX7_readNumber 21 = .ok (.goto 9, 3) := by decide +kernel
theorem dX7_readNumber_24 : decode cX7_readNumber 24 = .ok (.iload_n 1, 1) := by decide +kernel
theorem dX7_readNumber_25 : decode cX7_readNumber 25 = .ok (.bipush 10, 2) := by decide +kernel
theorem dX7_readNumber_27 : decode cX7_readNumber 27 = .ok (.imul, 1) := by decide +kernel
theorem dX7_readNumber_28 : decode cX7_readNumber 28 = .ok (.iload_n 2, 1) := by decide +kernel
theorem dX7_readNumber_29 : decode cX7_readNumber 29 = .ok (.iadd, 1) := by decide +kernel
theorem dX7_readNumber_30 : decode cX7_readNumber 30 = .ok (.ireturn, 1) := by decide +kernel
theorem dX7_readDigit_0 : decode cX7_readDigit 0 = .ok (.aload_n 0, 1) := by decide +kernel
theorem dX7_readDigit_1 : decode cX7_readDigit 1 = .ok (.getfield 41, 3) := by decide +kernel
theorem dX7_readDigit_4 : decode cX7_readDigit 4 = .ok (.aload_n 0, 1) := by decide +kernel
theorem dX7_readDigit_5 : decode cX7_readDigit 5 = .ok (.getfield 12, 3) := by decide +kernel
theorem dX7_readDigit_8 : decode cX7_readDigit 8 = .ok (.invokevirtual 22, 3) := by decide +kernel
theorem dX7_readDigit_11 : decode cX7_readDigit 11 = .ok (.if_icmp .ge 35, 3) := by decide +kernel
theorem dX7_readDigit_14 : decode cX7_readDigit 14 = .ok (.aload_n 0, 1) := by decide +kernel
theorem dX7_readDigit_15 : decode cX7_readDigit 15 = .ok (.getfield 12, 3) := by decide +kernel
theorem dX7_readDigit_18 : decode cX7_readDigit 18 = .ok (.aload_n 0, 1) := by decide +kernel
theorem dX7_readDigit_19 : decode cX7_readDigit 19 = .ok (.getfield 41, 3) := by decide +kernel
theorem dX7_readDigit_22 : decode cX7_readDigit 22 = .ok (.invokevirtual 49, 3) := by decide +kernel
theorem dX7_readDigit_25 : decode cX7_readDigit 25 = .ok (.bipush 48, 2) := by decide +kernel
theorem dX7_readDigit_27 : decode cX7_readDigit 27 = .ok (.if_icmp .lt 19, 3) := by decide +kernel
theorem dX7_readDigit_30 : decode cX7_readDigit 30 = .ok (.aload_n 0, 1) := by decide +kernel
theorem dX7_readDigit_31 : decode cX7_readDigit 31 = .ok (.getfield 12, 3) := by decide +kernel
theorem dX7_readDigit_34 : decode cX7_readDigit 34 = .ok (.aload_n 0, 1) := by decide +kernel
theorem dX7_readDigit_35 : decode cX7_readDigit 35 = .ok (.getfield 41, 3) := by decide +kernel
theorem dX7_readDigit_38 : decode cX7_readDigit 38 = .ok (.invokevirtual 49, 3) := by decide +kernel
theorem dX7_readDigit_41 : decode cX7_readDigit 41 = .ok (.bipush 57, 2) := by decide +kernel
theorem dX7_readDigit_43 : decode cX7_readDigit 43 = .ok (.if_icmp .le 5, 3) := by decide +kernel
theorem dX7_readDigit_46 : decode cX7_readDigit 46 = .ok (.iconst (-1), 1) := by decide +kernel
theorem dX7_readDigit_47 : decode cX7_readDigit 47 = .ok (.ireturn, 1) := by decide +kernel
theorem dX7_readDigit_48 : decode cX7_readDigit 48 = .ok (.aload_n 0, 1) := by decide +kernel
theorem dX7_readDigit_49 : decode cX7_readDigit 49 = .ok (.getfield 12, 3) := by decide +kernel
theorem dX7_readDigit_52 : decode cX7_readDigit 52 = .ok (.aload_n 0, 1) := by decide +kernel
theorem dX7_readDigit_53 : decode cX7_readDigit 53 = .ok (.getfield 41, 3) := by decide +kernel
theorem dX7_readDigit_56 : decode cX7_readDigit 56 = .ok (.invokevirtual 49, 3) := by decide +kernel
theorem dX7_readDigit_59 : decode cX7_readDigit 59 = .ok (.bipush 48, 2) := by decide +kernel
theorem dX7_readDigit_61 : decode cX7_readDigit 61 = .ok (.isub, 1) := by decide +kernel
theorem dX7_readDigit_62 : decode cX7_readDigit 62 = .ok (.istore_n 1, 1) := by decide +kernel
theorem dX7_readDigit_63 : decode cX7_readDigit 63 = .ok (.aload_n 0, 1) := by decide +kernel
theorem dX7_readDigit_64 : decode cX7_readDigit 64 = .ok (.dup, 1) := by decide +kernel
theorem dX7_readDigit_65 : decode cX7_readDigit 65 = .ok (.getfield 41, 3) := by decide +kernel
theorem dX7_readDigit_68 : decode cX7_readDigit 68 = .ok (.iconst 1, 1) := by decide +kernel
theorem dX7_readDigit_69 : decode cX7_readDigit 69 = .ok (.iadd, 1) := by decide +kernel
theorem dX7_readDigit_70 : decode cX7_readDigit 70 = .ok (.putfield 41, 3) := by decide +kernel
theorem dX7_readDigit_73 : decode cX7_readDigit 73 = .ok (.iload_n 1, 1) := by decide +kernel
theorem dX7_readDigit_74 : decode cX7_readDigit 74 = .ok (.ireturn, 1) := by decide +kernel
theorem dX7_isDone_0 : decode cX7_isDone 0 = .ok (.aload_n 0, 1) := by decide +kernel
theorem dX7_isDone_1 : decode cX7_isDone 1 = .ok (.aload_n 1, 1) := by decide +kernel
theorem dX7_isDone_2 : decode cX7_isDone 2 = .ok (.invokevirtual 105, 3) := by decide +kernel
theorem dX7_isDone_5 : decode cX7_isDone 5 = .ok (.ireturn, 1) := by decide +kernel
theorem dX7_isDone_6 : decode cX7_isDone 6 = .ok (.astore_n 2, 1) := by decide +kernel
theorem dX7_isDone_7 : decode cX7_isDone 7 = .ok (.iconst 0, 1) := by decide +kernel
theorem dX7_isDone_8 : decode cX7_isDone 8 = .ok (.ireturn, 1) := by decide +kernel
theorem dX7_isDone_9 : decode cX7_isDone 9 = .ok (.astore_n 2, 1) := by decide +kernel
theorem dX7_isDone_10 : decode cX7_isDone 10 = .ok (.iconst 0, 1) := by decide +kernel
theorem dX7_isDone_11 : decode cX7_isDone 11 = .ok (.ireturn, 1) := by decide +kernel
theorem dX7_isDone_12 : decode cX7_isDone 12 = .ok (.astore_n 2, 1) := by decide +kernel
theorem dX7_isDone_13 : decode cX7_isDone 13 = .ok (.iconst 0, 1) := by decide +kernel
theorem dX7_isDone_14 : decode cX7_isDone 14 = .ok (.ireturn, 1) := by decide +kernel
theorem dX7_isDone_15 : decode cX7_isDone 15 = .ok (.astore_n 2, 1) := by decide +kernel
theorem dX7_isDone_16 : decode cX7_isDone 16 = .ok (.iconst 0, 1) := by decide +kernel
theorem dX7_isDone_17 : decode cX7_isDone 17 = .ok (.ireturn, 1) := by decide +kernel
theorem dX7_execute_0 : decode cX7_execute 0 = .ok (.aload_n 0, 1) := by decide +kernel
theorem dX7_execute_1 : decode cX7_execute 1 = .ok (.getfield 71, 3) := by decide +kernel
theorem dX7_execute_4 : decode cX7_execute 4 = .ok (.ifnull 29, 3) := by decide +kernel
theorem dX7_execute_7 : decode cX7_execute 7 = .ok (.aload_n 0, 1) := by decide +kernel
theorem dX7_execute_8 : decode cX7_execute 8 = .ok (.getfield 71, 3) := by decide +kernel
theorem dX7_execute_11 : decode cX7_execute 11 = .ok (.getstatic 114, 3) := by decide +kernel
theorem dX7_execute_14 : decode cX7_execute 14 = .ok (.if_acmp .ne 21, 3) := by decide +kernel
theorem dX7_execute_17 : decode cX7_execute 17 = .ok (.aload_n 0, 1) := by decide +kernel
theorem dX7_execute_18 : decode cX7_execute 18 = .ok (.getfield 18, 3) := by decide +kernel
theorem dX7_execute_21 : decode cX7_execute 21 = .ok (.iconst 0, 1) := by decide +kernel
theorem dX7_execute_22 : decode cX7_execute 22 = .ok (.iaload, 1) := by decide +kernel
theorem dX7_execute_23 : decode cX7_execute 23 = .ok (.aload_n 1, 1) := by decide +kernel
theorem dX7_execute_24 : decode cX7_execute 24 = .ok (.getfield 117, 3) := by decide +kernel
theorem dX7_execute_27 : decode cX7_execute 27 = .ok (.getfield 123, 3) := by decide +kernel
theorem dX7_execute_30 : decode cX7_execute 30 = .ok (.if_icmp .lt 5, 3) := by decide +kernel
theorem dX7_execute_33 : decode cX7_execute 33 = .ok (.iconst 0, 1) := by decide +kernel
theorem dX7_execute_34 : decode cX7_execute 34 = .ok (.ireturn, 1) := by decide +kernel
theorem dX7_execute_35 : decode cX7_execute 35 = .ok (.getstatic 128, 3) := by decide +kernel
theorem dX7_execute_38 : decode cX7_execute 38 = .ok (.aload_n 0, 1) := by decide +kernel
theorem dX7_execute_39 : decode cX7_execute 39 = .ok (.getfield 71, 3) := by decide +kernel
theorem dX7_execute_42 : decode cX7_execute 42 = .ok (.invokevirtual 133, 3) := by decide +kernel
theorem dX7_execute_45 : decode cX7_execute 45 = .ok (.iaload, 1) := by decide +kernel
theorem dX7_execute_46 : decode cX7_execute 46 = .ok (.tableswitch 240 1 9 #[50, 76, 90, 122, 136, 163, 183, 197, 211], 50) := by decide +kernel
theorem dX7_execute_96 : decode cX7_execute 96 = .ok (.aload_n 1, 1) := by decide +kernel
theorem dX7_execute_97 : decode cX7_execute 97 = .ok (.aload_n 0, 1) := by decide +kernel
theorem dX7_execute_98 : decode cX7_execute 98 = .ok (.getfield 18, 3) := by decide +kernel
theorem dX7_execute_101 : decode cX7_execute 101 = .ok (.iconst 0, 1) := by decide +kernel
theorem dX7_execute_102 : decode cX7_execute 102 = .ok (.iaload, 1) := by decide +kernel
theorem dX7_execute_103 : decode cX7_execute 103 = .ok (.aload_n 0, 1) := by decide +kernel
theorem dX7_execute_104 : decode cX7_execute 104 = .ok (.getfield 18, 3) := by decide +kernel
theorem dX7_execute_107 : decode cX7_execute 107 = .ok (.iconst 1, 1) := by decide +kernel
theorem dX7_execute_108 : decode cX7_execute 108 = .ok (.iaload, 1) := by decide +kernel
theorem dX7_execute_109 : decode cX7_execute 109 = .ok (.aload_n 0, 1) := by decide +kernel
theorem dX7_execute_110 : decode cX7_execute 110 = .ok (.getfield 18, 3) := by decide +kernel
theorem dX7_execute_113 : decode cX7_execute 113 = .ok (.iconst 2, 1) := by decide +kernel
theorem dX7_execute_114 : decode cX7_execute 114 = .ok (.iaload, 1) := by decide +kernel
theorem dX7_execute_115 : decode cX7_execute 115 = .ok (.invokevirtual 136, 3) := by decide +kernel
theorem dX7_execute_118 : decode cX7_execute 118 = .ok (.pop, 1) := by decide +kernel
theorem dX7_execute_119 : decode cX7_execute 119 = .ok (.goto 178, 3) := by decide +kernel
theorem dX7_execute_122 : decode cX7_execute 122 = .ok (.aload_n 1, 1) := by decide +kernel
theorem dX7_execute_123 : decode cX7_execute 123 = .ok (.aload_n 0, 1) := by decide +kernel
theorem dX7_execute_124 : decode cX7_execute 124 = .ok (.getfield 18, 3) := by decide +kernel
theorem dX7_execute_127 : decode cX7_execute 127 = .ok (.iconst 0, 1) := by decide +kernel
theorem dX7_execute_128 : decode cX7_execute 128 = .ok (.iaload, 1) := by decide +kernel
theorem dX7_execute_129 : decode cX7_execute 129 = .ok (.invokevirtual 140, 3) := by decide +kernel
theorem dX7_execute_132 : decode cX7_execute 132 = .ok (.pop, 1) := by decide +kernel
theorem dX7_execute_133 : decode cX7_execute 133 = .ok (.goto 164, 3) := by decide +kernel
theorem dX7_execute_136 : decode cX7_execute 136 = .ok (.aload_n 1, 1) := by decide +kernel
theorem dX7_execute_137 : decode cX7_execute 137 = .ok (.aload_n 0, 1) := by decide +kernel
theorem dX7_execute_138 : decode cX7_execute 138 = .ok (.getfield 18, 3) := by decide +kernel
theorem dX7_execute_141 : decode cX7_execute 141 = .ok (.iconst 0, 1) := by decide +kernel
theorem dX7_execute_142 : decode cX7_execute 142 = .ok (.iaload, 1) := by decide +kernel
theorem dX7_execute_143 : decode cX7_execute 143 = .ok (.aload_n 0, 1) := by decide +kernel
theorem dX7_execute_144 : decode cX7_execute 144 = .ok (.getfield 18, 3) := by decide +kernel
theorem dX7_execute_147 : decode cX7_execute 147 = .ok (.iconst 1, 1) := by decide +kernel
theorem dX7_execute_148 : decode cX7_execute 148 = .ok (.iaload, 1) := by decide +kernel
theorem dX7_execute_149 : decode cX7_execute 149 = .ok (.aload_n 0, 1) := by decide +kernel
theorem dX7_execute_150 : decode cX7_execute 150 = .ok (.getfield 18, 3) := by decide +kernel
theorem dX7_execute_153 : decode cX7_execute 153 = .ok (.iconst 2, 1) := by decide +kernel
theorem dX7_execute_154 : decode cX7_execute 154 = .ok (.iaload, 1) := by decide +kernel
theorem dX7_execute_155 : decode cX7_execute 155 = .ok (.aload_n 0, 1) := by decide +kernel
theorem dX7_execute_156 : decode cX7_execute 156 = .ok (.getfield 18, 3) := by decide +kernel
theorem dX7_execute_159 : decode cX7_execute 159 = .ok (.iconst 3, 1) := by decide +kernel
theorem dX7_execute_160 : decode cX7_execute 160 = .ok (.iaload, 1) := by decide +kernel
theorem dX7_execute_161 : decode cX7_execute 161 = .ok (.invokevirtual 144, 3) := by decide +kernel
theorem dX7_execute_164 : decode cX7_execute 164 = .ok (.pop, 1) := by decide +kernel
theorem dX7_execute_165 : decode cX7_execute 165 = .ok (.goto 132, 3) := by decide +kernel
theorem dX7_execute_168 : decode cX7_execute 168 = .ok (.aload_n 1, 1) := by decide +kernel
theorem dX7_execute_169 : decode cX7_execute 169 = .ok (.aload_n 0, 1) := by decide +kernel
theorem dX7_execute_170 : decode cX7_execute 170 = .ok (.getfield 18, 3) := by decide +kernel
theorem dX7_execute_173 : decode cX7_execute 173 = .ok (.iconst 0, 1) := by decide +kernel
theorem dX7_execute_174 : decode cX7_execute 174 = .ok (.iaload, 1) := by decide +kernel
theorem dX7_execute_175 : decode cX7_execute 175 = .ok (.invokevirtual 148, 3) := by decide +kernel
theorem dX7_execute_178 : decode cX7_execute 178 = .ok (.pop, 1) := by decide +kernel
theorem dX7_execute_179 : decode cX7_execute 179 = .ok (.goto 118, 3) := by decide +kernel
theorem dX7_execute_182 : decode cX7_execute 182 = .ok (.aload_n 1, 1) := by decide +kernel
theorem dX7_execute_183 : decode cX7_execute 183 = .ok (.aload_n 0, 1) := by decide +kernel
theorem dX7_execute_184 : decode cX7_execute 184 = .ok (.getfield 18, 3) := by decide +kernel
theorem dX7_execute_187 : decode cX7_execute 187 = .ok (.iconst 0, 1) := by decide +kernel
theorem dX7_execute_188 : decode cX7_execute 188 = .ok (.iaload, 1) := by decide +kernel
theorem dX7_execute_189 : decode cX7_execute 189 = .ok (.aload_n 0, 1) := by decide +kernel
theorem dX7_execute_190 : decode cX7_execute 190 = .ok (.getfield 18, 3) := by decide +kernel
theorem dX7_execute_193 : decode cX7_execute 193 = .ok (.iconst 1, 1) := by decide +kernel
theorem dX7_execute_194 : decode cX7_execute 194 = .ok (.iaload, 1) := by decide +kernel
theorem dX7_execute_195 : decode cX7_execute 195 = .ok (.i2c, 1) := by decide +kernel
theorem dX7_execute_196 : decode cX7_execute 196 = .ok (.aload_n 0, 1) := by decide +kernel
theorem dX7_execute_197 : decode cX7_execute 197 = .ok (.getfield 18, 3) := by decide +kernel
theorem dX7_execute_200 : decode cX7_execute 200 = .ok (.iconst 2, 1) := by decide +kernel
theorem dX7_execute_201 : decode cX7_execute 201 = .ok (.iaload, 1) := by decide +kernel
theorem dX7_execute_202 : decode cX7_execute 202 = .ok (.invokevirtual 151, 3) := by decide +kernel
theorem dX7_execute_205 : decode cX7_execute 205 = .ok (.pop, 1) := by decide +kernel
theorem dX7_execute_206 : decode cX7_execute 206 = .ok (.goto 91, 3) := by decide +kernel
theorem dX7_execute_209 : decode cX7_execute 209 = .ok (.aload_n 1, 1) := by decide +kernel
theorem dX7_execute_210 : decode cX7_execute 210 = .ok (.aload_n 0, 1) := by decide +kernel
theorem dX7_execute_211 : decode cX7_execute 211 = .ok (.getfield 18, 3) := by decide +kernel
theorem dX7_execute_214 : decode cX7_execute 214 = .ok (.iconst 0, 1) := by decide +kernel
theorem dX7_execute_215 : decode cX7_execute 215 = .ok (.iaload, 1) := by decide +kernel
theorem dX7_execute_216 : decode cX7_execute 216 = .ok (.aload_n 0, 1) := by decide +kernel
theorem dX7_execute_217 : decode cX7_execute 217 = .ok (.getfield 18, 3) := by decide +kernel
theorem dX7_execute_220 : decode cX7_execute 220 = .ok (.iconst 1, 1) := by decide +kernel
theorem dX7_execute_221 : decode cX7_execute 221 = .ok (.iaload, 1) := by decide +kernel
theorem dX7_execute_222 : decode cX7_execute 222 = .ok (.invokevirtual 155, 3) := by decide +kernel
theorem dX7_execute_225 : decode cX7_execute 225 = .ok (.pop, 1) := by decide +kernel
theorem dX7_execute_226 : decode cX7_execute 226 = .ok (.goto 71, 3) := by decide +kernel
theorem dX7_execute_229 : decode cX7_execute 229 = .ok (.aload_n 1, 1) := by decide +kernel
theorem dX7_execute_230 : decode cX7_execute 230 = .ok (.aload_n 0, 1) := by decide +kernel
theorem dX7_execute_231 : decode cX7_execute 231 = .ok (.getfield 18, 3) := by decide +kernel
theorem dX7_execute_234 : decode cX7_execute 234 = .ok (.iconst 0, 1) := by decide +kernel
theorem dX7_execute_235 : decode cX7_execute 235 = .ok (.iaload, 1) := by decide +kernel
theorem dX7_execute_236 : decode cX7_execute 236 = .ok (.invokevirtual 158, 3) := by decide +kernel
theorem dX7_execute_239 : decode cX7_execute 239 = .ok (.pop, 1) := by decide +kernel
theorem dX7_execute_240 : decode cX7_execute 240 = .ok (.goto 57, 3) := by decide +kernel
theorem dX7_execute_243 : decode cX7_execute 243 = .ok (.aload_n 1, 1) := by decide +kernel
theorem dX7_execute_244 : decode cX7_execute 244 = .ok (.aload_n 0, 1) := by decide +kernel
theorem dX7_execute_245 : decode cX7_execute 245 = .ok (.getfield 18, 3) := by decide +kernel
theorem dX7_execute_248 : decode cX7_execute 248 = .ok (.iconst 0, 1) := by decide +kernel
theorem dX7_execute_249 : decode cX7_execute 249 = .ok (.iaload, 1) := by decide +kernel
theorem dX7_execute_250 : decode cX7_execute 250 = .ok (.invokevirtual 161, 3) := by decide +kernel
theorem dX7_execute_253 : decode cX7_execute 253 = .ok (.pop, 1) := by decide +kernel
theorem dX7_execute_254 : decode cX7_execute 254 = .ok (.goto 43, 3) := by decide +kernel
theorem dX7_execute_257 : decode cX7_execute 257 = .ok (.aload_n 1, 1) := by decide +kernel
theorem dX7_execute_258 : decode cX7_execute 258 = .ok (.getfield 164, 3) := by decide +kernel
theorem dX7_execute_261 : decode cX7_execute 261 = .ok (.aload_n 0, 1) := by decide +kernel
theorem dX7_execute_262 : decode cX7_execute 262 = .ok (.getfield 18, 3) := by decide +kernel
theorem dX7_execute_265 : decode cX7_execute 265 = .ok (.iconst 0, 1) := by decide +kernel
theorem dX7_execute_266 : decode cX7_execute 266 = .ok (.iaload, 1) := by decide +kernel
theorem dX7_execute_267 : decode cX7_execute 267 = .ok (.aload_n 0, 1) := by decide +kernel
theorem dX7_execute_268 : decode cX7_execute 268 = .ok (.getfield 18, 3) := by decide +kernel
theorem dX7_execute_271 : decode cX7_execute 271 = .ok (.iconst 1, 1) := by decide +kernel
theorem dX7_execute_272 : decode cX7_execute 272 = .ok (.iaload, 1) := by decide +kernel
theorem dX7_execute_273 : decode cX7_execute 273 = .ok (.aload_n 0, 1) := by decide +kernel
theorem dX7_execute_274 : decode cX7_execute 274 = .ok (.getfield 18, 3) := by decide +kernel
theorem dX7_execute_277 : decode cX7_execute 277 = .ok (.iconst 2, 1) := by decide +kernel
theorem dX7_execute_278 : decode cX7_execute 278 = .ok (.iaload, 1) := by decide +kernel
theorem dX7_execute_279 : decode cX7_execute 279 = .ok (.invokevirtual 168, 3) := by decide +kernel
theorem dX7_execute_282 : decode cX7_execute 282 = .ok (.pop, 1) := by decide +kernel
theorem dX7_execute_283 : decode cX7_execute 283 = .ok (.goto 14, 3) := by decide +kernel
theorem dX7_execute_286 : decode cX7_execute 286 = .ok (.aload_n 1, 1) := by decide +kernel
theorem dX7_execute_287 : decode cX7_execute 287 = .ok (.aload_n 0, 1) := by decide +kernel
theorem dX7_execute_288 : decode cX7_execute 288 = .ok (.getfield 18, 3) := by decide +kernel
theorem dX7_execute_291 : decode cX7_execute 291 = .ok (.iconst 0, 1) := by decide +kernel
theorem dX7_execute_292 : decode cX7_execute 292 = .ok (.iaload, 1) := by decide +kernel
theorem dX7_execute_293 : decode cX7_execute 293 = .ok (.invokevirtual 173, 3) := by decide +kernel
theorem dX7_execute_296 : decode cX7_execute 296 = .ok (.pop, 1) := by decide +kernel
theorem dX7_execute_297 : decode cX7_execute 297 = .ok (.iconst 1, 1) := by decide +kernel
theorem dX7_execute_298 : decode cX7_execute 298 = .ok (.ireturn, 1) := by decide +kernel
theorem dX8_init_0 : decode cX8_init 0 = .ok (.aload_n 0, 1) := by decide +kernel
theorem dX8_init_1 : decode cX8_init 1 = .ok (.invokespecial 3, 3) := by decide +kernel
theorem dX8_init_4 : decode cX8_init 4 = .ok (.aload_n 0, 1) := by decide +kernel
theorem dX8_init_5 : decode cX8_init 5 = .ok (.iconst 4, 1) := by decide +kernel
theorem dX8_init_6 : decode cX8_init 6 = .ok (.newarray .int, 2) := by decide +kernel
theorem dX8_init_8 : decode cX8_init 8 = .ok (.putfield 9, 3) := by decide +kernel
theorem dX8_init_11 : decode cX8_init 11 = .ok (.aload_n 0, 1) := by decide +kernel
theorem dX8_init_12 : decode cX8_init 12 = .ok (.iconst 4, 1) := by decide +kernel
theorem dX8_init_13 : decode cX8_init 13 = .ok (.newarray .int, 2) := by decide +kernel
theorem dX8_init_15 : decode cX8_init 15 = .ok (.putfield 15, 3) := by decide +kernel
theorem dX8_init_18 : decode cX8_init 18 = .ok (.aload_n 0, 1) := by decide +kernel
theorem dX8_init_19 : decode cX8_init 19 = .ok (.iconst 4, 1) := by decide +kernel
theorem dX8_init_20 : decode cX8_init 20 = .ok (.newarray .int, 2) := by decide +kernel
theorem dX8_init_22 : decode cX8_init 22 = .ok (.putfield 18, 3) := by decide +kernel
theorem dX8_init_25 : decode cX8_init 25 = .ok (.aload_n 0, 1) := by decide +kernel
theorem dX8_init_26 : decode cX8_init 26 = .ok (.iconst 4, 1) := by decide +kernel
theorem dX8_init_27 : decode cX8_init 27 = .ok (.newarray .int, 2) := by decide +kernel
theorem dX8_init_29 : decode cX8_init 29 = .ok (.putfield 21, 3) := by decide +kernel
theorem dX8_init_32 : decode cX8_init 32 = .ok (.aload_n 0, 1) := by decide +kernel
theorem dX8_init_33 : decode cX8_init 33 = .ok (.iconst 4, 1) := by decide +kernel
theorem dX8_init_34 : decode cX8_init 34 = .ok (.newarray .int, 2) := by decide +kernel
theorem dX8_init_36 : decode cX8_init 36 = .ok (.putfield 24, 3) := by decide +kernel
theorem dX8_init_39 : decode cX8_init 39 = .ok (.aload_n 0, 1) := by decide +kernel
theorem dX8_init_40 : decode cX8_init 40 = .ok (.iconst 4, 1) := by decide +kernel
theorem dX8_init_41 : decode cX8_init 41 = .ok (.newarray .int, 2) := by decide +kernel
theorem dX8_init_43 : decode cX8_init 43 = .ok (.putfield 27, 3) := by decide +kernel
theorem dX8_init_46 : decode cX8_init 46 = .ok (.return_, 1) := by decide +kernel
theorem dX8_copyFrom_0 : decode cX8_copyFrom 0 = .ok (.aload_n 1, 1) := by decide +kernel
theorem dX8_copyFrom_1 : decode cX8_copyFrom 1 = .ok (.getfield 9, 3) := by decide +kernel
theorem dX8_copyFrom_4 : decode cX8_copyFrom 4 = .ok (.aload_n 0, 1) := by decide +kernel
theorem dX8_copyFrom_5 : decode cX8_copyFrom 5 = .ok (.getfield 9, 3) := by decide +kernel
theorem dX8_copyFrom_8 : decode cX8_copyFrom 8 = .ok (.invokestatic 30, 3) := by decide +kernel
theorem dX8_copyFrom_11 : decode cX8_copyFrom 11 = .ok (.aload_n 1, 1) := by decide +kernel
theorem dX8_copyFrom_12 : decode cX8_copyFrom 12 = .ok (.getfield 15, 3) := by decide +kernel
theorem dX8_copyFrom_15 : decode cX8_copyFrom 15 = .ok (.aload_n 0, 1) := by decide +kernel
theorem dX8_copyFrom_16 : decode cX8_copyFrom 16 = .ok (.getfield 15, 3) := by decide +kernel
theorem dX8_copyFrom_19 : decode cX8_copyFrom 19 = .ok (.invokestatic 30, 3) := by decide +kernel
theorem dX8_copyFrom_22 : decode cX8_copyFrom 22 = .ok (.aload_n 1, 1) := by decide +kernel
theorem dX8_copyFrom_23 : decode cX8_copyFrom 23 = .ok (.getfield 18, 3) := by decide +kernel
theorem dX8_copyFrom_26 : decode cX8_copyFrom 26 = .ok (.aload_n 0, 1) := by decide +kernel
theorem dX8_copyFrom_27 : decode cX8_copyFrom 27 = .ok (.getfield 18, 3) := by decide +kernel
theorem dX8_copyFrom_30 : decode cX8_copyFrom 30 = .ok (.invokestatic 30, 3) := by decide +kernel
theorem dX8_copyFrom_33 : decode cX8_copyFrom 33 = .ok (.aload_n 1, 1) := by decide +kernel
theorem dX8_copyFrom_34 : decode cX8_copyFrom 34 = .ok (.getfield 21, 3) := by decide +kernel
theorem dX8_copyFrom_37 : decode cX8_copyFrom 37 = .ok (.aload_n 0, 1) := by decide +kernel
theorem dX8_copyFrom_38 : decode cX8_copyFrom 38 = .ok (.getfield 21, 3) := by decide +kernel
theorem dX8_copyFrom_41 : decode cX8_copyFrom 41 = .ok (.invokestatic 30, 3) := by decide +kernel
theorem dX8_copyFrom_44 : decode cX8_copyFrom 44 = .ok (.aload_n 0, 1) := by decide +kernel
theorem dX8_copyFrom_45 : decode cX8_copyFrom 45 = .ok (.aload_n 1, 1) := by decide +kernel
theorem dX8_copyFrom_46 : decode cX8_copyFrom 46 = .ok (.getfield 34, 3) := by decide +kernel
theorem dX8_copyFrom_49 : decode cX8_copyFrom 49 = .ok (.putfield 34, 3) := by decide +kernel
theorem dX8_copyFrom_52 : decode cX8_copyFrom 52 = .ok (.return_, 1) := by decide +kernel
theorem dX8_add_0 : decode cX8_add 0 = .ok (.iload_n 1, 1) := by decide +kernel
theorem dX8_add_1 : decode cX8_add 1 = .ok (.iconst 0, 1) := by decide +kernel
theorem dX8_add_2 : decode cX8_add 2 = .ok (.bipush 29, 2) := by decide +kernel
theorem dX8_add_4 : decode cX8_add 4 = .ok (.invokestatic 38, 3) := by decide +kernel
theorem dX8_add_7 : decode cX8_add 7 = .ok (.pop, 1) := by decide +kernel
theorem dX8_add_8 : decode cX8_add 8 = .ok (.iload_n 2, 1) := by decide +kernel
theorem dX8_add_9 : decode cX8_add 9 = .ok (.iconst 1, 1) := by decide +kernel
theorem dX8_add_10 : decode cX8_add 10 = .ok (.bipush 30, 2) := by decide +kernel
theorem dX8_add_12 : decode cX8_add 12 = .ok (.invokestatic 38, 3) := by decide +kernel
theorem dX8_add_15 : decode cX8_add 15 = .ok (.pop, 1) := by decide +kernel
theorem dX8_add_16 : decode cX8_add 16 = .ok (.iload_n 3, 1) := by decide +kernel
theorem dX8_add_17 : decode cX8_add 17 = .ok (.iconst 1, 1) := by decide +kernel
theorem dX8_add_18 : decode cX8_add 18 = .ok (.bipush 99, 2) := by decide +kernel
theorem dX8_add_20 : decode cX8_add 20 = .ok (.invokestatic 38, 3) := by decide +kernel
theorem dX8_add_23 : decode cX8_add 23 = .ok (.pop, 1) := by decide +kernel
theorem dX8_add_24 : decode cX8_add 24 = .ok (.aload_n 0, 1) := by decide +kernel
theorem dX8_add_25 : decode cX8_add 25 = .ok (.getfield 34, 3) := by decide +kernel
theorem dX8_add_28 : decode cX8_add 28 = .ok (.iconst 4, 1) := by decide +kernel
theorem dX8_add_29 : decode cX8_add 29 = .ok (.invokestatic 42, 3) := by decide +kernel
theorem dX8_add_32 : decode cX8_add 32 = .ok (.istore 4, 2) := by decide +kernel
theorem dX8_add_34 : decode cX8_add 34 = .ok (.aload_n 0, 1) := by decide +kernel
theorem dX8_add_35 : decode cX8_add 35 = .ok (.getfield 9, 3) := by decide +kernel
theorem dX8_add_38 : decode cX8_add 38 = .ok (.iload 4, 2) := by decide +kernel
theorem dX8_add_40 : decode cX8_add 40 = .ok (.iload_n 1, 1) := by decide +kernel
theorem dX8_add_41 : decode cX8_add 41 = .ok (.iastore, 1) := by decide +kernel
theorem dX8_add_42 : decode cX8_add 42 = .ok (.aload_n 0, 1) := by decide +kernel
theorem dX8_add_43 : decode cX8_add 43 = .ok (.getfield 15, 3) := by decide +kernel
theorem dX8_add_46 : decode cX8_add 46 = .ok (.iload 4, 2) := by decide +kernel
theorem dX8_add_48 : decode cX8_add 48 = .ok (.iload_n 2, 1) := by decide +kernel
theorem dX8_add_49 : decode cX8_add 49 = .ok (.iastore, 1) := by decide +kernel
theorem dX8_add_50 : decode cX8_add 50 = .ok (.aload_n 0, 1) := by decide +kernel
theorem dX8_add_51 : decode cX8_add 51 = .ok (.getfield 18, 3) := by decide +kernel
theorem dX8_add_54 : decode cX8_add 54 = .ok (.iload 4, 2) := by decide +kernel
theorem dX8_add_56 : decode cX8_add 56 = .ok (.iload_n 3, 1) := by decide +kernel
theorem dX8_add_57 : decode cX8_add 57 = .ok (.iastore, 1) := by decide +kernel
theorem dX8_add_58 : decode cX8_add 58 = .ok (.aload_n 0, 1) := by decide +kernel
theorem dX8_add_59 : decode cX8_add 59 = .ok (.getfield 21, 3) := by decide +kernel
theorem dX8_add_62 : decode cX8_add 62 = .ok (.iload 4, 2) := by decide +kernel
theorem dX8_add_64 : decode cX8_add 64 = .ok (.iload_n 3, 1) := by decide +kernel
theorem dX8_add_65 : decode cX8_add 65 = .ok (.iastore, 1) := by decide +kernel
theorem dX8_add_66 : decode cX8_add 66 = .ok (.aload_n 0, 1) := by decide +kernel
theorem dX8_add_67 : decode cX8_add 67 = .ok (.dup, 1) := by decide +kernel
theorem dX8_add_68 : decode cX8_add 68 = .ok (.getfield 34, 3) := by decide +kernel
theorem dX8_add_71 : decode cX8_add 71 = .ok (.iconst 1, 1) := by decide +kernel
theorem dX8_add_72 : decode cX8_add 72 = .ok (.iadd, 1) := by decide +kernel
theorem dX8_add_73 : decode cX8_add 73 = .ok (.putfield 34, 3) := by decide +kernel
theorem dX8_add_76 : decode cX8_add 76 = .ok (.iload 4, 2) := by decide +kernel
theorem dX8_add_78 : decode cX8_add 78 = .ok (.ireturn, 1) := by decide +kernel
theorem dX8_remove_0 : decode cX8_remove 0 = .ok (.aload_n 0, 1) := by decide +kernel
theorem dX8_remove_1 : decode cX8_remove 1 = .ok (.getfield 9, 3) := by decide +kernel
theorem dX8_remove_4 : decode cX8_remove 4 = .ok (.iload_n 1, 1) := by decide +kernel
theorem dX8_remove_5 : decode cX8_remove 5 = .ok (.invokestatic 46, 3) := by decide +kernel
theorem dX8_remove_8 : decode cX8_remove 8 = .ok (.aload_n 0, 1) := by decide +kernel
theorem dX8_remove_9 : decode cX8_remove 9 = .ok (.getfield 15, 3) := by decide +kernel
theorem dX8_remove_12 : decode cX8_remove 12 = .ok (.iload_n 1, 1) := by decide +kernel
theorem dX8_remove_13 : decode cX8_remove 13 = .ok (.invokestatic 46, 3) := by decide +kernel
theorem dX8_remove_16 : decode cX8_remove 16 = .ok (.aload_n 0, 1) := by decide +kernel
theorem dX8_remove_17 : decode cX8_remove 17 = .ok (.getfield 18, 3) := by decide +kernel
theorem dX8_remove_20 : decode cX8_remove 20 = .ok (.iload_n 1, 1) := by decide +kernel
theorem dX8_remove_21 : decode cX8_remove 21 = .ok (.invokestatic 46, 3) := by decide +kernel
theorem dX8_remove_24 : decode cX8_remove 24 = .ok (.aload_n 0, 1) := by decide +kernel
theorem dX8_remove_25 : decode cX8_remove 25 = .ok (.getfield 21, 3) := by decide +kernel
theorem dX8_remove_28 : decode cX8_remove 28 = .ok (.iload_n 1, 1) := by decide +kernel
theorem dX8_remove_29 : decode cX8_remove 29 = .ok (.invokestatic 46, 3) := by decide +kernel
theorem dX8_remove_32 : decode cX8_remove 32 = .ok (.aload_n 0, 1) := by decide +kernel
theorem dX8_remove_33 : decode cX8_remove 33 = .ok (.dup, 1) := by decide +kernel
theorem dX8_remove_34 : decode cX8_remove 34 = .ok (.getfield 34, 3) := by decide +kernel
theorem dX8_remove_37 : decode cX8_remove 37 = .ok (.iconst 1, 1) := by decide +kernel
theorem dX8_remove_38 : decode cX8_remove 38 = .ok (.isub, 1) := by decide +kernel
theorem dX8_remove_39 : decode cX8_remove 39 = .ok (.putfield 34, 3) := by decide +kernel
theorem dX8_remove_42 : decode cX8_remove 42 = .ok (.return_, 1) := by decide +kernel
theorem dX8_giveBack_0 : decode cX8_giveBack 0 = .ok (.iconst 0, 1) := by decide +kernel
theorem dX8_giveBack_1 : decode cX8_giveBack 1 = .ok (.istore_n 2, 1) := by decide +kernel
theorem dX8_giveBack_2 : decode cX8_giveBack 2 = .ok (.iload_n 2, 1) := by decide +kernel
theorem dX8_giveBack_3 : decode cX8_giveBack 3 = .ok (.aload_n 0, 1) := by decide +kernel
theorem dX8_giveBack_4 : decode cX8_giveBack 4 = .ok (.getfield 34, 3) := by decide +kernel
theorem dX8_giveBack_7 : decode cX8_giveBack 7 = .ok (.if_icmp .ge 21, 3) := by decide +kernel
theorem dX8_giveBack_10 : decode cX8_giveBack 10 = .ok (.aload_n 0, 1) := by decide +kernel
theorem dX8_giveBack_11 : decode cX8_giveBack 11 = .ok (.getfield 18, 3) := by decide +kernel
theorem dX8_giveBack_14 : decode cX8_giveBack 14 = .ok (.iload_n 2, 1) := by decide +kernel
theorem dX8_giveBack_15 : decode cX8_giveBack 15 = .ok (.dup2, 1) := by decide +kernel
theorem dX8_giveBack_16 : decode cX8_giveBack 16 = .ok (.iaload, 1) := by decide +kernel
theorem dX8_giveBack_17 : decode cX8_giveBack 17 = .ok (.aload_n 1, 1) := by decide +kernel
theorem dX8_giveBack_18 : decode cX8_giveBack 18 = .ok (.iload_n 2, 1) := by decide +kernel
theorem dX8_giveBack_19 : decode cX8_giveBack 19 = .ok (.iaload, 1) := by decide +kernel
theorem dX8_giveBack_20 : decode cX8_giveBack 20 = .ok (.iadd, 1) := by decide +kernel
theorem dX8_giveBack_21 : decode cX8_giveBack 21 = .ok (.iastore, 1) := by decide +kernel
theorem dX8_giveBack_22 : decode cX8_giveBack 22 = .ok (.iinc 2 1, 3) := by decide +kernel
theorem dX8_giveBack_25 : decode cX8_giveBack 25 = .ok (.goto (-23), 3) := by decide +kernel
theorem dX8_giveBack_28 : decode cX8_giveBack 28 = .ok (.return_, 1) := by decide +kernel
theorem dX8_countByCoins_0 : decode cX8_countByCoins 0 = .ok (.aload_n 0, 1) := by decide +kernel
theorem dX8_countByCoins_1 : decode cX8_countByCoins 1 = .ok (.getfield 18, 3) := by decide +kernel
theorem dX8_countByCoins_4 : decode cX8_countByCoins 4 = .ok (.aload_n 0, 1) := by decide +kernel
theorem dX8_countByCoins_5 : decode cX8_countByCoins 5 = .ok (.getfield 24, 3) := by decide +kernel
theorem dX8_countByCoins_8 : decode cX8_countByCoins 8 = .ok (.invokestatic 30, 3) := by decide +kernel
theorem dX8_countByCoins_11 : decode cX8_countByCoins 11 = .ok (.aload_n 0, 1) := by decide +kernel
theorem dX8_countByCoins_12 : decode cX8_countByCoins 12 = .ok (.getfield 27, 3) := by decide +kernel
theorem dX8_countByCoins_15 : decode cX8_countByCoins 15 = .ok (.iconst 0, 1) := by decide +kernel
theorem dX8_countByCoins_16 : decode cX8_countByCoins 16 = .ok (.invokestatic 50, 3) := by decide +kernel
theorem dX8_countByCoins_19 : decode cX8_countByCoins 19 = .ok (.aload_n 0, 1) := by decide +kernel
theorem dX8_countByCoins_20 : decode cX8_countByCoins 20 = .ok (.iload_n 1, 1) := by decide +kernel
theorem dX8_countByCoins_21 : decode cX8_countByCoins 21 = .ok (.aload_n 0, 1) := by decide +kernel
theorem dX8_countByCoins_22 : decode cX8_countByCoins 22 = .ok (.getfield 24, 3) := by decide +kernel
theorem dX8_countByCoins_25 : decode cX8_countByCoins 25 = .ok (.aload_n 0, 1) := by decide +kernel
theorem dX8_countByCoins_26 : decode cX8_countByCoins 26 = .ok (.getfield 27, 3) := by decide +kernel
theorem dX8_countByCoins_29 : decode cX8_countByCoins 29 = .ok (.invokevirtual 55, 3) := by decide +kernel
theorem dX8_countByCoins_32 : decode cX8_countByCoins 32 = .ok (.aload_n 0, 1) := by decide +kernel
theorem dX8_countByCoins_33 : decode cX8_countByCoins 33 = .ok (.getfield 27, 3) := by decide +kernel
theorem dX8_countByCoins_36 : decode cX8_countByCoins 36 = .ok (.iconst 4, 1) := by decide +kernel
theorem dX8_countByCoins_37 : decode cX8_countByCoins 37 = .ok (.invokestatic 59, 3) := by decide +kernel
theorem dX8_countByCoins_40 : decode cX8_countByCoins 40 = .ok (.ireturn, 1) := by decide +kernel
theorem dX8_bearCoins_0 : decode cX8_bearCoins 0 = .ok (.iconst 1, 1) := by decide +kernel
theorem dX8_bearCoins_1 : decode cX8_bearCoins 1 = .ok (.istore 4, 2) := by decide +kernel
theorem dX8_bearCoins_3 : decode cX8_bearCoins 3 = .ok (.iload 4, 2) := by decide +kernel
theorem dX8_bearCoins_5 : decode cX8_bearCoins 5 = .ok (.iload_n 1, 1) := by decide +kernel
theorem dX8_bearCoins_6 : decode cX8_bearCoins 6 = .ok (.if_icmp .gt 39, 3) := by decide +kernel
theorem dX8_bearCoins_9 : decode cX8_bearCoins 9 = .ok (.aload_n 0, 1) := by decide +kernel
theorem dX8_bearCoins_10 : decode cX8_bearCoins 10 = .ok (.iload 4, 2) := by decide +kernel
theorem dX8_bearCoins_12 : decode cX8_bearCoins 12 = .ok (.aload_n 2, 1) := by decide +kernel
theorem dX8_bearCoins_13 : decode cX8_bearCoins 13 = .ok (.invokevirtual 63, 3) := by decide +kernel
theorem dX8_bearCoins_16 : decode cX8_bearCoins 16 = .ok (.istore 5, 2) := by decide +kernel
theorem dX8_bearCoins_18 : decode cX8_bearCoins 18 = .ok (.iload 5, 2) := by decide +kernel
theorem dX8_bearCoins_20 : decode cX8_bearCoins 20 = .ok (.ifCond .lt 19, 3) := by decide +kernel
theorem dX8_bearCoins_23 : decode cX8_bearCoins 23 = .ok (.aload_n 2, 1) := by decide +kernel
theorem dX8_bearCoins_24 : decode cX8_bearCoins 24 = .ok (.iload 5, 2) := by decide +kernel
theorem dX8_bearCoins_26 : decode cX8_bearCoins 26 = .ok (.dup2, 1) := by decide +kernel
theorem dX8_bearCoins_27 : decode cX8_bearCoins 27 = .ok (.iaload, 1) := by decide +kernel
theorem dX8_bearCoins_28 : decode cX8_bearCoins 28 = .ok (.iconst 1, 1) := by decide +kernel
theorem dX8_bearCoins_29 : decode cX8_bearCoins 29 = .ok (.isub, 1) := by decide +kernel
theorem dX8_bearCoins_30 : decode cX8_bearCoins 30 = .ok (.iastore, 1) := by decide +kernel
theorem dX8_bearCoins_31 : decode cX8_bearCoins 31 = .ok (.aload_n 3, 1) := by decide +kernel
theorem dX8_bearCoins_32 : decode cX8_bearCoins 32 = .ok (.iload 5, 2) := by decide +kernel
theorem dX8_bearCoins_34 : decode cX8_bearCoins 34 = .ok (.dup2, 1) := by decide +kernel
theorem dX8_bearCoins_35 : decode cX8_bearCoins 35 = .ok (.iaload, 1) := by decide +kernel
theorem dX8_bearCoins_36 : decode cX8_bearCoins 36 = .ok (.iconst 1, 1) := by decide +kernel
theorem dX8_bearCoins_37 : decode cX8_bearCoins 37 = .ok (.iadd, 1) := by decide +kernel
theorem dX8_bearCoins_38 : decode cX8_bearCoins 38 = .ok (.iastore, 1) := by decide +kernel
theorem dX8_bearCoins_39 : decode cX8_bearCoins 39 = .ok (.iinc 4 1, 3) := by decide +kernel
theorem dX8_bearCoins_42 : decode cX8_bearCoins 42 = .ok (.goto (-39), 3) := by decide +kernel
theorem dX8_bearCoins_45 : decode cX8_bearCoins 45 = .ok (.return_, 1) := by decide +kernel
theorem dX8_treatyOf_0 : decode cX8_treatyOf 0 = .ok (.iconst 0, 1) := by decide +kernel
theorem dX8_treatyOf_1 : decode cX8_treatyOf 1 = .ok (.istore_n 3, 1) := by decide +kernel
theorem dX8_treatyOf_2 : decode cX8_treatyOf 2 = .ok (.iload_n 3, 1) := by decide +kernel
theorem dX8_treatyOf_3 : decode cX8_treatyOf 3 = .ok (.aload_n 0, 1) := by decide +kernel
theorem dX8_treatyOf_4 : decode cX8_treatyOf 4 = .ok (.getfield 34, 3) := by decide +kernel
theorem dX8_treatyOf_7 : decode cX8_treatyOf 7 = .ok (.if_icmp .ge 44, 3) := by decide +kernel
theorem dX8_treatyOf_10 : decode cX8_treatyOf 10 = .ok (.iload_n 1, 1) := by decide +kernel
theorem dX8_treatyOf_11 : decode cX8_treatyOf 11 = .ok (.aload_n 0, 1) := by decide +kernel
theorem dX8_treatyOf_12 : decode cX8_treatyOf 12 = .ok (.getfield 9, 3) := by decide +kernel
theorem dX8_treatyOf_15 : decode cX8_treatyOf 15 = .ok (.iload_n 3, 1) := by decide +kernel
theorem dX8_treatyOf_16 : decode cX8_treatyOf 16 = .ok (.iaload, 1) := by decide +kernel
theorem dX8_treatyOf_17 : decode cX8_treatyOf 17 = .ok (.if_icmp .le 28, 3) := by decide +kernel
theorem dX8_treatyOf_20 : decode cX8_treatyOf 20 = .ok (.iload_n 1, 1) := by decide +kernel
theorem dX8_treatyOf_21 : decode cX8_treatyOf 21 = .ok (.aload_n 0, 1) := by decide +kernel
theorem dX8_treatyOf_22 : decode cX8_treatyOf 22 = .ok (.getfield 9, 3) := by decide +kernel
theorem dX8_treatyOf_25 : decode cX8_treatyOf 25 = .ok (.iload_n 3, 1) := by decide +kernel
theorem dX8_treatyOf_26 : decode cX8_treatyOf 26 = .ok (.iaload, 1) := by decide +kernel
theorem dX8_treatyOf_27 : decode cX8_treatyOf 27 = .ok (.aload_n 0, 1) := by decide +kernel
theorem dX8_treatyOf_28 : decode cX8_treatyOf 28 = .ok (.getfield 15, 3) := by decide +kernel
theorem dX8_treatyOf_31 : decode cX8_treatyOf 31 = .ok (.iload_n 3, 1) := by decide +kernel
theorem dX8_treatyOf_32 : decode cX8_treatyOf 32 = .ok (.iaload, 1) := by decide +kernel
theorem dX8_treatyOf_33 : decode cX8_treatyOf 33 = .ok (.iadd, 1) := by decide +kernel
theorem dX8_treatyOf_34 : decode cX8_treatyOf 34 = .ok (.if_icmp .gt 11, 3) := by decide +kernel
theorem dX8_treatyOf_37 : decode cX8_treatyOf 37 = .ok (.aload_n 2, 1) := by decide +kernel
theorem dX8_treatyOf_38 : decode cX8_treatyOf 38 = .ok (.iload_n 3, 1) := by decide +kernel
theorem dX8_treatyOf_39 : decode cX8_treatyOf 39 = .ok (.iaload, 1) := by decide +kernel
theorem dX8_treatyOf_40 : decode cX8_treatyOf 40 = .ok (.ifCond .le 5, 3) := by decide +kernel
theorem dX8_treatyOf_43 : decode cX8_treatyOf 43 = .ok (.iload_n 3, 1) := by decide +kernel
theorem dX8_treatyOf_44 : decode cX8_treatyOf 44 = .ok (.ireturn, 1) := by decide +kernel
theorem dX8_treatyOf_45 : decode cX8_treatyOf 45 = .ok (.iinc 3 1, 3) := by decide +kernel
theorem dX8_treatyOf_48 : decode cX8_treatyOf 48 = .ok (.goto (-46), 3) := by decide +kernel
theorem dX8_treatyOf_51 : decode cX8_treatyOf 51 = .ok (.iconst (-1), 1) := by decide +kernel
theorem dX8_treatyOf_52 : decode cX8_treatyOf 52 = .ok (.ireturn, 1) := by decide +kernel
theorem dX8_countByRuns_0 : decode cX8_countByRuns 0 = .ok (.aload_n 0, 1) := by decide +kernel
theorem dX8_countByRuns_1 : decode cX8_countByRuns 1 = .ok (.getfield 18, 3) := by decide +kernel
theorem dX8_countByRuns_4 : decode cX8_countByRuns 4 = .ok (.aload_n 0, 1) := by decide +kernel
theorem dX8_countByRuns_5 : decode cX8_countByRuns 5 = .ok (.getfield 24, 3) := by decide +kernel
theorem dX8_countByRuns_8 : decode cX8_countByRuns 8 = .ok (.invokestatic 30, 3) := by decide +kernel
theorem dX8_countByRuns_11 : decode cX8_countByRuns 11 = .ok (.iconst 0, 1) := by decide +kernel
theorem dX8_countByRuns_12 : decode cX8_countByRuns 12 = .ok (.istore_n 2, 1) := by decide +kernel
theorem dX8_countByRuns_13 : decode cX8_countByRuns 13 = .ok (.iconst 1, 1) := by decide +kernel
theorem dX8_countByRuns_14 : decode cX8_countByRuns 14 = .ok (.istore_n 3, 1) := by decide +kernel
theorem dX8_countByRuns_15 : decode cX8_countByRuns 15 = .ok (.iload_n 3, 1) := by decide +kernel
theorem dX8_countByRuns_16 : decode cX8_countByRuns 16 = .ok (.iload_n 1, 1) := by decide +kernel
theorem dX8_countByRuns_17 : decode cX8_countByRuns 17 = .ok (.if_icmp .gt 66, 3) := by decide +kernel
theorem dX8_countByRuns_20 : decode cX8_countByRuns 20 = .ok (.aload_n 0, 1) := by decide +kernel
theorem dX8_countByRuns_21 : decode cX8_countByRuns 21 = .ok (.iload_n 3, 1) := by decide +kernel
theorem dX8_countByRuns_22 : decode cX8_countByRuns 22 = .ok (.aload_n 0, 1) := by decide +kernel
theorem dX8_countByRuns_23 : decode cX8_countByRuns 23 = .ok (.getfield 24, 3) := by decide +kernel
theorem dX8_countByRuns_26 : decode cX8_countByRuns 26 = .ok (.invokevirtual 63, 3) := by decide +kernel
theorem dX8_countByRuns_29 : decode cX8_countByRuns 29 = .ok (.istore 4, 2) := by decide +kernel
theorem dX8_countByRuns_31 : decode cX8_countByRuns 31 = .ok (.aload_n 0, 1) := by decide +kernel
theorem dX8_countByRuns_32 : decode cX8_countByRuns 32 = .ok (.iload_n 3, 1) := by decide +kernel
theorem dX8_countByRuns_33 : decode cX8_countByRuns 33 = .ok (.iload 4, 2) := by decide +kernel
theorem dX8_countByRuns_35 : decode cX8_countByRuns 35 = .ok (.iload_n 1, 1) := by decide +kernel
theorem dX8_countByRuns_36 : decode cX8_countByRuns 36 = .ok (.invokevirtual 67, 3) := by decide +kernel
theorem dX8_countByRuns_39 : decode cX8_countByRuns 39 = .ok (.istore 5, 2) := by decide +kernel
theorem dX8_countByRuns_41 : decode cX8_countByRuns 41 = .ok (.iload 4, 2) := by decide +kernel
theorem dX8_countByRuns_43 : decode cX8_countByRuns 43 = .ok (.ifCond .lt 28, 3) := by decide +kernel
theorem dX8_countByRuns_46 : decode cX8_countByRuns 46 = .ok (.aload_n 0, 1) := by decide +kernel
theorem dX8_countByRuns_47 : decode cX8_countByRuns 47 = .ok (.getfield 24, 3) := by decide +kernel
theorem dX8_countByRuns_50 : decode cX8_countByRuns 50 = .ok (.iload 4, 2) := by decide +kernel
theorem dX8_countByRuns_52 : decode cX8_countByRuns 52 = .ok (.dup2, 1) := by decide +kernel
theorem dX8_countByRuns_53 : decode cX8_countByRuns 53 = .ok (.iaload, 1) := by decide +kernel
theorem dX8_countByRuns_54 : decode cX8_countByRuns 54 = .ok (.iload 5, 2) := by decide +kernel
theorem dX8_countByRuns_56 : decode cX8_countByRuns 56 = .ok (.iload_n 3, 1) := by decide +kernel
theorem dX8_countByRuns_57 : decode cX8_countByRuns 57 = .ok (.isub, 1) := by decide +kernel
theorem dX8_countByRuns_58 : decode cX8_countByRuns 58 = .ok (.iconst 1, 1) := by decide +kernel
theorem dX8_countByRuns_59 : decode cX8_countByRuns 59 = .ok (.iadd, 1) := by decide +kernel
theorem dX8_countByRuns_60 : decode cX8_countByRuns 60 = .ok (.isub, 1) := by decide +kernel
theorem dX8_countByRuns_61 : decode cX8_countByRuns 61 = .ok (.iastore, 1) := by decide +kernel
theorem dX8_countByRuns_62 : decode cX8_countByRuns 62 = .ok (.iload_n 2, 1) := by decide +kernel
theorem dX8_countByRuns_63 : decode cX8_countByRuns 63 = .ok (.iload 5, 2) := by decide +kernel
theorem dX8_countByRuns_65 : decode cX8_countByRuns 65 = .ok (.iload_n 3, 1) := by decide +kernel
theorem dX8_countByRuns_66 : decode cX8_countByRuns 66 = .ok (.isub, 1) := by decide +kernel
theorem dX8_countByRuns_67 : decode cX8_countByRuns 67 = .ok (.iconst 1, 1) := by decide +kernel
theorem dX8_countByRuns_68 : decode cX8_countByRuns 68 = .ok (.iadd, 1) := by decide +kernel
theorem dX8_countByRuns_69 : decode cX8_countByRuns 69 = .ok (.iadd, 1) := by decide +kernel
theorem dX8_countByRuns_70 : decode cX8_countByRuns 70 = .ok (.istore_n 2, 1) := by decide +kernel
theorem dX8_countByRuns_71 : decode cX8_countByRuns 71 = .ok (.iload_n 3, 1) := by decide +kernel
theorem dX8_countByRuns_72 : decode cX8_countByRuns 72 = .ok (.iload 5, 2) := by decide +kernel
theorem dX8_countByRuns_74 : decode cX8_countByRuns 74 = .ok (.invokestatic 70, 3) := by decide +kernel
theorem dX8_countByRuns_77 : decode cX8_countByRuns 77 = .ok (.iconst 1, 1) := by decide +kernel
theorem dX8_countByRuns_78 : decode cX8_countByRuns 78 = .ok (.iadd, 1) := by decide +kernel
theorem dX8_countByRuns_79 : decode cX8_countByRuns 79 = .ok (.istore_n 3, 1) := by decide +kernel
theorem dX8_countByRuns_80 : decode cX8_countByRuns 80 = .ok (.goto (-65), 3) := by decide +kernel
theorem dX8_countByRuns_83 : decode cX8_countByRuns 83 = .ok (.iload_n 2, 1) := by decide +kernel
theorem dX8_countByRuns_84 : decode cX8_countByRuns 84 = .ok (.ireturn, 1) := by decide +kernel
theorem dX8_endOfRun_0 : decode cX8_endOfRun 0 = .ok (.iload_n 3, 1) := by decide +kernel
theorem dX8_endOfRun_1 : decode cX8_endOfRun 1 = .ok (.istore 4, 2) := by decide +kernel
theorem dX8_endOfRun_3 : decode cX8_endOfRun 3 = .ok (.aload_n 0, 1) := by decide +kernel
theorem dX8_endOfRun_4 : decode cX8_endOfRun 4 = .ok (.getfield 34, 3) := by decide +kernel
theorem dX8_endOfRun_7 : decode cX8_endOfRun 7 = .ok (.istore 5, 2) := by decide +kernel
theorem dX8_endOfRun_9 : decode cX8_endOfRun 9 = .ok (.iload_n 2, 1) := by decide +kernel
theorem dX8_endOfRun_10 : decode cX8_endOfRun 10 = .ok (.ifCond .lt 43, 3) := by decide +kernel
theorem dX8_endOfRun_13 : decode cX8_endOfRun 13 = .ok (.iload 4, 2) := by decide +kernel
theorem dX8_endOfRun_15 : decode cX8_endOfRun 15 = .ok (.aload_n 0, 1) := by decide +kernel
theorem dX8_endOfRun_16 : decode cX8_endOfRun 16 = .ok (.getfield 9, 3) := by decide +kernel
theorem dX8_endOfRun_19 : decode cX8_endOfRun 19 = .ok (.iload_n 2, 1) := by decide +kernel
theorem dX8_endOfRun_20 : decode cX8_endOfRun 20 = .ok (.iaload, 1) := by decide +kernel
theorem dX8_endOfRun_21 : decode cX8_endOfRun 21 = .ok (.aload_n 0, 1) := by decide +kernel
theorem dX8_endOfRun_22 : decode cX8_endOfRun 22 = .ok (.getfield 15, 3) := by decide +kernel
theorem dX8_endOfRun_25 : decode cX8_endOfRun 25 = .ok (.iload_n 2, 1) := by decide +kernel
theorem dX8_endOfRun_26 : decode cX8_endOfRun 26 = .ok (.iaload, 1) := by decide +kernel
theorem dX8_endOfRun_27 : decode cX8_endOfRun 27 = .ok (.iadd, 1) := by decide +kernel
theorem dX8_endOfRun_28 : decode cX8_endOfRun 28 = .ok (.invokestatic 75, 3) := by decide +kernel
theorem dX8_endOfRun_31 : decode cX8_endOfRun 31 = .ok (.istore 4, 2) := by decide +kernel
theorem dX8_endOfRun_33 : decode cX8_endOfRun 33 = .ok (.iload 4, 2) := by decide +kernel
theorem dX8_endOfRun_35 : decode cX8_endOfRun 35 = .ok (.iload_n 1, 1) := by decide +kernel
theorem dX8_endOfRun_36 : decode cX8_endOfRun 36 = .ok (.aload_n 0, 1) := by decide +kernel
theorem dX8_endOfRun_37 : decode cX8_endOfRun 37 = .ok (.getfield 24, 3) := by decide +kernel
theorem dX8_endOfRun_40 : decode cX8_endOfRun 40 = .ok (.iload_n 2, 1) := by decide +kernel
theorem dX8_endOfRun_41 : decode cX8_endOfRun 41 = .ok (.iaload, 1) := by decide +kernel
theorem dX8_endOfRun_42 : decode cX8_endOfRun 42 = .ok (.iadd, 1) := by decide +kernel
theorem dX8_endOfRun_43 : decode cX8_endOfRun 43 = .ok (.iconst 1, 1) := by decide +kernel
theorem dX8_endOfRun_44 : decode cX8_endOfRun 44 = .ok (.isub, 1) := by decide +kernel
theorem dX8_endOfRun_45 : decode cX8_endOfRun 45 = .ok (.invokestatic 75, 3) := by decide +kernel
theorem dX8_endOfRun_48 : decode cX8_endOfRun 48 = .ok (.istore 4, 2) := by decide +kernel
theorem dX8_endOfRun_50 : decode cX8_endOfRun 50 = .ok (.iload_n 2, 1) := by decide +kernel
theorem dX8_endOfRun_51 : decode cX8_endOfRun 51 = .ok (.istore 5, 2) := by decide +kernel
theorem dX8_endOfRun_53 : decode cX8_endOfRun 53 = .ok (.iconst 0, 1) := by decide +kernel
theorem dX8_endOfRun_54 : decode cX8_endOfRun 54 = .ok (.istore 6, 2) := by decide +kernel
theorem dX8_endOfRun_56 : decode cX8_endOfRun 56 = .ok (.iload 6, 2) := by decide +kernel
theorem dX8_endOfRun_58 : decode cX8_endOfRun 58 = .ok (.iload 5, 2) := by decide +kernel
theorem dX8_endOfRun_60 : decode cX8_endOfRun 60 = .ok (.if_icmp .ge 44, 3) := by decide +kernel
theorem dX8_endOfRun_63 : decode cX8_endOfRun 63 = .ok (.aload_n 0, 1) := by decide +kernel
theorem dX8_endOfRun_64 : decode cX8_endOfRun 64 = .ok (.getfield 24, 3) := by decide +kernel
theorem dX8_endOfRun_67 : decode cX8_endOfRun 67 = .ok (.iload 6, 2) := by decide +kernel
theorem dX8_endOfRun_69 : decode cX8_endOfRun 69 = .ok (.iaload, 1) := by decide +kernel
theorem dX8_endOfRun_70 : decode cX8_endOfRun 70 = .ok (.ifCond .le 28, 3) := by decide +kernel
theorem dX8_endOfRun_73 : decode cX8_endOfRun 73 = .ok (.aload_n 0, 1) := by decide +kernel
theorem dX8_endOfRun_74 : decode cX8_endOfRun 74 = .ok (.getfield 9, 3) := by decide +kernel
theorem dX8_endOfRun_77 : decode cX8_endOfRun 77 = .ok (.iload 6, 2) := by decide +kernel
theorem dX8_endOfRun_79 : decode cX8_endOfRun 79 = .ok (.iaload, 1) := by decide +kernel
theorem dX8_endOfRun_80 : decode cX8_endOfRun 80 = .ok (.iload_n 1, 1) := by decide +kernel
theorem dX8_endOfRun_81 : decode cX8_endOfRun 81 = .ok (.if_icmp .lt 17, 3) := by decide +kernel
theorem dX8_endOfRun_84 : decode cX8_endOfRun 84 = .ok (.iload 4, 2) := by decide +kernel
theorem dX8_endOfRun_86 : decode cX8_endOfRun 86 = .ok (.aload_n 0, 1) := by decide +kernel
theorem dX8_endOfRun_87 : decode cX8_endOfRun 87 = .ok (.getfield 9, 3) := by decide +kernel
theorem dX8_endOfRun_90 : decode cX8_endOfRun 90 = .ok (.iload 6, 2) := by decide +kernel
theorem dX8_endOfRun_92 : decode cX8_endOfRun 92 = .ok (.iaload, 1) := by decide +kernel
theorem dX8_endOfRun_93 : decode cX8_endOfRun 93 = .ok (.invokestatic 75, 3) := by decide +kernel
theorem dX8_endOfRun_96 : decode cX8_endOfRun 96 = .ok (.istore 4, 2) := by decide +kernel
theorem dX8_endOfRun_98 : decode cX8_endOfRun 98 = .ok (.iinc 6 1, 3) := by decide +kernel
theorem dX8_endOfRun_101 : decode cX8_endOfRun 101 = .ok (.goto (-45), 3) := by decide +kernel
theorem dX8_endOfRun_104 : decode cX8_endOfRun 104 = .ok (.iload 4, 2) := by decide +kernel
theorem dX8_endOfRun_106 : decode cX8_endOfRun 106 = .ok (.ireturn, 1) := by decide +kernel
theorem dX9_init_0 : decode cX9_init 0 = .ok (.aload_n 0, 1) := by decide +kernel
theorem dX9_init_1 : decode cX9_init 1 = .ok (.invokespecial 3, 3) := by decide +kernel
theorem dX9_init_4 : decode cX9_init 4 = .ok (.aload_n 0, 1) := by decide +kernel
theorem dX9_init_5 : decode cX9_init 5 = .ok (.bipush 6, 2) := by decide +kernel
theorem dX9_init_7 : decode cX9_init 7 = .ok (.bipush 6, 2) := by decide +kernel
theorem dX9_init_9 : decode cX9_init 9 = .ok (.multianewarray 9 2, 4) := by decide +kernel
theorem dX9_init_13 : decode cX9_init 13 = .ok (.putfield 11, 3) := by decide +kernel
theorem dX9_init_16 : decode cX9_init 16 = .ok (.return_, 1) := by decide +kernel
theorem dX9_copyFrom_0 : decode cX9_copyFrom 0 = .ok (.iconst 0, 1) := by decide +kernel
theorem dX9_copyFrom_1 : decode cX9_copyFrom 1 = .ok (.istore_n 2, 1) := by decide +kernel
theorem dX9_copyFrom_2 : decode cX9_copyFrom 2 = .ok (.iload_n 2, 1) := by decide +kernel
theorem dX9_copyFrom_3 : decode cX9_copyFrom 3 = .ok (.bipush 6, 2) := by decide +kernel
theorem dX9_copyFrom_5 : decode cX9_copyFrom 5 = .ok (.if_icmp .ge 24, 3) := by decide +kernel
theorem dX9_copyFrom_8 : decode cX9_copyFrom 8 = .ok (.aload_n 1, 1) := by decide +kernel
theorem dX9_copyFrom_9 : decode cX9_copyFrom 9 = .ok (.getfield 11, 3) := by decide +kernel
theorem dX9_copyFrom_12 : decode cX9_copyFrom 12 = .ok (.iload_n 2, 1) := by decide +kernel
theorem dX9_copyFrom_13 : decode cX9_copyFrom 13 = .ok (.aaload, 1) := by decide +kernel
theorem dX9_copyFrom_14 : decode cX9_copyFrom 14 = .ok (.aload_n 0, 1) := by decide +kernel
theorem dX9_copyFrom_15 : decode cX9_copyFrom 15 = .ok (.getfield 11, 3) := by decide +kernel
theorem dX9_copyFrom_18 : decode cX9_copyFrom 18 = .ok (.iload_n 2, 1) := by decide +kernel
theorem dX9_copyFrom_19 : decode cX9_copyFrom 19 = .ok (.aaload, 1) := by decide +kernel
theorem dX9_copyFrom_20 : decode cX9_copyFrom 20 = .ok (.invokestatic 16, 3) := by decide +kernel
theorem dX9_copyFrom_23 : decode cX9_copyFrom 23 = .ok (.iinc 2 1, 3) := by decide +kernel
theorem dX9_copyFrom_26 : decode cX9_copyFrom 26 = .ok (.goto (-24), 3) := by decide +kernel
theorem dX9_copyFrom_29 : decode cX9_copyFrom 29 = .ok (.return_, 1) := by decide +kernel
theorem dX9_add_0 : decode cX9_add 0 = .ok (.iload_n 1, 1) := by decide +kernel
theorem dX9_add_1 : decode cX9_add 1 = .ok (.bipush 10, 2) := by decide +kernel
theorem dX9_add_3 : decode cX9_add 3 = .ok (.idiv, 1) := by decide +kernel
theorem dX9_add_4 : decode cX9_add 4 = .ok (.istore 4, 2) := by decide +kernel
theorem dX9_add_6 : decode cX9_add 6 = .ok (.iload_n 2, 1) := by decide +kernel
theorem dX9_add_7 : decode cX9_add 7 = .ok (.bipush 10, 2) := by decide +kernel
theorem dX9_add_9 : decode cX9_add 9 = .ok (.idiv, 1) := by decide +kernel
theorem dX9_add_10 : decode cX9_add 10 = .ok (.iload 4, 2) := by decide +kernel
theorem dX9_add_12 : decode cX9_add 12 = .ok (.isub, 1) := by decide +kernel
theorem dX9_add_13 : decode cX9_add 13 = .ok (.istore 5, 2) := by decide +kernel
theorem dX9_add_15 : decode cX9_add 15 = .ok (.iload 4, 2) := by decide +kernel
theorem dX9_add_17 : decode cX9_add 17 = .ok (.ifCond .lt 32, 3) := by decide +kernel
theorem dX9_add_20 : decode cX9_add 20 = .ok (.iload 5, 2) := by decide +kernel
theorem dX9_add_22 : decode cX9_add 22 = .ok (.ifCond .lt 27, 3) := by decide +kernel
theorem dX9_add_25 : decode cX9_add 25 = .ok (.iload 4, 2) := by decide +kernel
theorem dX9_add_27 : decode cX9_add 27 = .ok (.iload 5, 2) := by decide +kernel
theorem dX9_add_29 : decode cX9_add 29 = .ok (.iadd, 1) := by decide +kernel
theorem dX9_add_30 : decode cX9_add 30 = .ok (.bipush 6, 2) := by decide +kernel
theorem dX9_add_32 : decode cX9_add 32 = .ok (.if_icmp .ge 17, 3) := by decide +kernel
theorem dX9_add_35 : decode cX9_add 35 = .ok (.aload_n 0, 1) := by decide +kernel
theorem dX9_add_36 : decode cX9_add 36 = .ok (.getfield 11, 3) := by decide +kernel
theorem dX9_add_39 : decode cX9_add 39 = .ok (.iload 4, 2) := by decide +kernel
theorem dX9_add_41 : decode cX9_add 41 = .ok (.aaload, 1) := by decide +kernel
theorem dX9_add_42 : decode cX9_add 42 = .ok (.iload 5, 2) := by decide +kernel
theorem dX9_add_44 : decode cX9_add 44 = .ok (.dup2, 1) := by decide +kernel
theorem dX9_add_45 : decode cX9_add 45 = .ok (.iaload, 1) := by decide +kernel
theorem dX9_add_46 : decode cX9_add 46 = .ok (.iload_n 3, 1) := by decide +kernel
theorem dX9_add_47 : decode cX9_add 47 = .ok (.iadd, 1) := by decide +kernel
theorem dX9_add_48 : decode cX9_add 48 = .ok (.iastore, 1) := by decide +kernel
theorem dX9_add_49 : decode cX9_add 49 = .ok (.return_, 1) := by decide +kernel
theorem dX9_projectByDelays_0 : decode cX9_projectByDelays 0 = .ok (.aload_n 0, 1) := by decide +kernel
theorem dX9_projectByDelays_1 : decode cX9_projectByDelays 1 = .ok (.iload_n 1, 1) := by decide +kernel
theorem dX9_projectByDelays_2 : decode cX9_projectByDelays 2 = .ok (.iload_n 2, 1) := by decide +kernel
theorem dX9_projectByDelays_3 : decode cX9_projectByDelays 3 = .ok (.iload_n 1, 1) := by decide +kernel
theorem dX9_projectByDelays_4 : decode cX9_projectByDelays 4 = .ok (.isub, 1) := by decide +kernel
theorem dX9_projectByDelays_5 : decode cX9_projectByDelays 5 = .ok (.invokevirtual 20, 3) := by decide +kernel
theorem dX9_projectByDelays_8 : decode cX9_projectByDelays 8 = .ok (.i2l, 1) := by decide +kernel
theorem dX9_projectByDelays_9 : decode cX9_projectByDelays 9 = .ok (.lstore_n 3, 1) := by decide +kernel
theorem dX9_projectByDelays_10 : decode cX9_projectByDelays 10 = .ok (.iload_n 2, 1) := by decide +kernel
theorem dX9_projectByDelays_11 : decode cX9_projectByDelays 11 = .ok (.iload_n 1, 1) := by decide +kernel
theorem dX9_projectByDelays_12 : decode cX9_projectByDelays 12 = .ok (.isub, 1) := by decide +kernel
theorem dX9_projectByDelays_13 : decode cX9_projectByDelays 13 = .ok (.istore 5, 2) := by decide +kernel
theorem dX9_projectByDelays_15 : decode cX9_projectByDelays 15 = .ok (.iload 5, 2) := by decide +kernel
theorem dX9_projectByDelays_17 : decode cX9_projectByDelays 17 = .ok (.iconst 5, 1) := by decide +kernel
theorem dX9_projectByDelays_18 : decode cX9_projectByDelays 18 = .ok (.if_icmp .ge 18, 3) := by decide +kernel
theorem dX9_projectByDelays_21 : decode cX9_projectByDelays 21 = .ok (.aload_n 0, 1) := by decide +kernel
theorem dX9_projectByDelays_22 : decode cX9_projectByDelays 22 = .ok (.lload_n 3, 1) := by decide +kernel
theorem dX9_projectByDelays_23 : decode cX9_projectByDelays 23 = .ok (.iload 5, 2) := by decide +kernel
theorem dX9_projectByDelays_25 : decode cX9_projectByDelays 25 = .ok (.iload_n 2, 1) := by decide +kernel
theorem dX9_projectByDelays_26 : decode cX9_projectByDelays 26 = .ok (.invokevirtual 24, 3) := by decide +kernel
theorem dX9_projectByDelays_29 : decode cX9_projectByDelays 29 = .ok (.lstore_n 3, 1) := by decide +kernel
theorem dX9_projectByDelays_30 : decode cX9_projectByDelays 30 = .ok (.iinc 5 1, 3) := by decide +kernel
theorem dX9_projectByDelays_33 : decode cX9_projectByDelays 33 = .ok (.goto (-18), 3) := by decide +kernel
theorem dX9_projectByDelays_36 : decode cX9_projectByDelays 36 = .ok (.lload_n 3, 1) := by decide +kernel
theorem dX9_projectByDelays_37 : decode cX9_projectByDelays 37 = .ok (.l2i, 1) := by decide +kernel
theorem dX9_projectByDelays_38 : decode cX9_projectByDelays 38 = .ok (.ireturn, 1) := by decide +kernel
theorem dX9_projectBackwards_0 : decode cX9_projectBackwards 0 = .ok (.aload_n 0, 1) := by decide +kernel
theorem dX9_projectBackwards_1 : decode cX9_projectBackwards 1 = .ok (.iload_n 1, 1) := by decide +kernel
theorem dX9_projectBackwards_2 : decode cX9_projectBackwards 2 = .ok (.iconst 5, 1) := by decide +kernel
theorem dX9_projectBackwards_3 : decode cX9_projectBackwards 3 = .ok (.iload_n 2, 1) := by decide +kernel
theorem dX9_projectBackwards_4 : decode cX9_projectBackwards 4 = .ok (.invokestatic 28, 3) := by decide +kernel
theorem dX9_projectBackwards_7 : decode cX9_projectBackwards 7 = .ok (.l2i, 1) := by decide +kernel
theorem dX9_projectBackwards_8 : decode cX9_projectBackwards 8 = .ok (.ireturn, 1) := by decide +kernel
theorem dX9_valueAt_0 : decode cX9_valueAt 0 = .ok (.iload_n 2, 1) := by decide +kernel
theorem dX9_valueAt_1 : decode cX9_valueAt 1 = .ok (.ifCond .le 10, 3) := by decide +kernel
theorem dX9_valueAt_4 : decode cX9_valueAt 4 = .ok (.iload_n 2, 1) := by decide +kernel
theorem dX9_valueAt_5 : decode cX9_valueAt 5 = .ok (.iload_n 3, 1) := by decide +kernel
theorem dX9_valueAt_6 : decode cX9_valueAt 6 = .ok (.iload_n 1, 1) := by decide +kernel
theorem dX9_valueAt_7 : decode cX9_valueAt 7 = .ok (.isub, 1) := by decide +kernel
theorem dX9_valueAt_8 : decode cX9_valueAt 8 = .ok (.if_icmp .gt 13, 3) := by decide +kernel
theorem dX9_valueAt_11 : decode cX9_valueAt 11 = .ok (.aload_n 0, 1) := by decide +kernel
theorem dX9_valueAt_12 : decode cX9_valueAt 12 = .ok (.iload_n 1, 1) := by decide +kernel
theorem dX9_valueAt_13 : decode cX9_valueAt 13 = .ok (.iload_n 3, 1) := by decide +kernel
theorem dX9_valueAt_14 : decode cX9_valueAt 14 = .ok (.iload_n 1, 1) := by decide +kernel
theorem dX9_valueAt_15 : decode cX9_valueAt 15 = .ok (.isub, 1) := by decide +kernel
theorem dX9_valueAt_16 : decode cX9_valueAt 16 = .ok (.invokevirtual 20, 3) := by decide +kernel
theorem dX9_valueAt_19 : decode cX9_valueAt 19 = .ok (.i2l, 1) := by decide +kernel
theorem dX9_valueAt_20 : decode cX9_valueAt 20 = .ok (.lreturn, 1) := by decide +kernel
theorem dX9_valueAt_21 : decode cX9_valueAt 21 = .ok (.aload_n 0, 1) := by decide +kernel
theorem dX9_valueAt_22 : decode cX9_valueAt 22 = .ok (.aload_n 0, 1) := by decide +kernel
theorem dX9_valueAt_23 : decode cX9_valueAt 23 = .ok (.iload_n 1, 1) := by decide +kernel
theorem dX9_valueAt_24 : decode cX9_valueAt 24 = .ok (.iload_n 2, 1) := by decide +kernel
theorem dX9_valueAt_25 : decode cX9_valueAt 25 = .ok (.iconst 1, 1) := by decide +kernel
theorem dX9_valueAt_26 : decode cX9_valueAt 26 = .ok (.isub, 1) := by decide +kernel
theorem dX9_valueAt_27 : decode cX9_valueAt 27 = .ok (.iload_n 3, 1) := by decide +kernel
theorem dX9_valueAt_28 : decode cX9_valueAt 28 = .ok (.invokestatic 28, 3) := by decide +kernel
theorem dX9_valueAt_31 : decode cX9_valueAt 31 = .ok (.iload_n 2, 1) := by decide +kernel
theorem dX9_valueAt_32 : decode cX9_valueAt 32 = .ok (.iconst 1, 1) := by decide +kernel
theorem dX9_valueAt_33 : decode cX9_valueAt 33 = .ok (.isub, 1) := by decide +kernel
theorem dX9_valueAt_34 : decode cX9_valueAt 34 = .ok (.iload_n 3, 1) := by decide +kernel
theorem dX9_valueAt_35 : decode cX9_valueAt 35 = .ok (.invokevirtual 24, 3) := by decide +kernel
theorem dX9_valueAt_38 : decode cX9_valueAt 38 = .ok (.lreturn, 1) := by decide +kernel
theorem dX9_timesFactor_0 : decode cX9_timesFactor 0 = .ok (.iload 4, 2) := by decide +kernel
theorem dX9_timesFactor_2 : decode cX9_timesFactor 2 = .ok (.iload_n 3, 1) := by decide +kernel
theorem dX9_timesFactor_3 : decode cX9_timesFactor 3 = .ok (.isub, 1) := by decide +kernel
theorem dX9_timesFactor_4 : decode cX9_timesFactor 4 = .ok (.istore 5, 2) := by decide +kernel
theorem dX9_timesFactor_6 : decode cX9_timesFactor 6 = .ok (.aload_n 0, 1) := by decide +kernel
theorem dX9_timesFactor_7 : decode cX9_timesFactor 7 = .ok (.iload 5, 2) := by decide +kernel
theorem dX9_timesFactor_9 : decode cX9_timesFactor 9 = .ok (.iload_n 3, 1) := by decide +kernel
theorem dX9_timesFactor_10 : decode cX9_timesFactor 10 = .ok (.invokevirtual 32, 3) := by decide +kernel
theorem dX9_timesFactor_13 : decode cX9_timesFactor 13 = .ok (.lstore 6, 2) := by decide +kernel
theorem dX9_timesFactor_15 : decode cX9_timesFactor 15 = .ok (.lload 6, 2) := by decide +kernel
theorem dX9_timesFactor_17 : decode cX9_timesFactor 17 = .ok (.lconst 1, 1) := by decide +kernel
theorem dX9_timesFactor_18 : decode cX9_timesFactor 18 = .ok (.lcmp, 1) := by decide +kernel
theorem dX9_timesFactor_19 : decode cX9_timesFactor 19 = .ok (.ifCond .ge 5, 3) := by decide +kernel
theorem dX9_timesFactor_22 : decode cX9_timesFactor 22 = .ok (.lload_n 1, 1) := by decide +kernel
theorem dX9_timesFactor_23 : decode cX9_timesFactor 23 = .ok (.lreturn, 1) := by decide +kernel
theorem dX9_timesFactor_24 : decode cX9_timesFactor 24 = .ok (.lload_n 1, 1) := by decide +kernel
theorem dX9_timesFactor_25 : decode cX9_timesFactor 25 = .ok (.aload_n 0, 1) := by decide +kernel
theorem dX9_timesFactor_26 : decode cX9_timesFactor 26 = .ok (.iload 5, 2) := by decide +kernel
theorem dX9_timesFactor_28 : decode cX9_timesFactor 28 = .ok (.iload_n 3, 1) := by decide +kernel
theorem dX9_timesFactor_29 : decode cX9_timesFactor 29 = .ok (.iconst 1, 1) := by decide +kernel
theorem dX9_timesFactor_30 : decode cX9_timesFactor 30 = .ok (.iadd, 1) := by decide +kernel
theorem dX9_timesFactor_31 : decode cX9_timesFactor 31 = .ok (.invokevirtual 32, 3) := by decide +kernel
theorem dX9_timesFactor_34 : decode cX9_timesFactor 34 = .ok (.lmul, 1) := by decide +kernel
theorem dX9_timesFactor_35 : decode cX9_timesFactor 35 = .ok (.lload 6, 2) := by decide +kernel
theorem dX9_timesFactor_37 : decode cX9_timesFactor 37 = .ok (.ldiv, 1) := by decide +kernel
theorem dX9_timesFactor_38 : decode cX9_timesFactor 38 = .ok (.lreturn, 1) := by decide +kernel
theorem dX9_totalOfPeriods_0 : decode cX9_totalOfPeriods 0 = .ok (.lconst 0, 1) := by decide +kernel
theorem dX9_totalOfPeriods_1 : decode cX9_totalOfPeriods 1 = .ok (.lstore_n 3, 1) := by decide +kernel
theorem dX9_totalOfPeriods_2 : decode cX9_totalOfPeriods 2 = .ok (.iconst 0, 1) := by decide +kernel
theorem dX9_totalOfPeriods_3 : decode cX9_totalOfPeriods 3 = .ok (.istore 5, 2) := by decide +kernel
theorem dX9_totalOfPeriods_5 : decode cX9_totalOfPeriods 5 = .ok (.iload 5, 2) := by decide +kernel
theorem dX9_totalOfPeriods_7 : decode cX9_totalOfPeriods 7 = .ok (.iload_n 1, 1) := by decide +kernel
theorem dX9_totalOfPeriods_8 : decode cX9_totalOfPeriods 8 = .ok (.bipush 6, 2) := by decide +kernel
theorem dX9_totalOfPeriods_10 : decode cX9_totalOfPeriods 10 = .ok (.invokestatic 36, 3) := by decide +kernel
theorem dX9_totalOfPeriods_13 : decode cX9_totalOfPeriods 13 = .ok (.if_icmp .ge 20, 3) := by decide +kernel
theorem dX9_totalOfPeriods_16 : decode cX9_totalOfPeriods 16 = .ok (.lload_n 3, 1) := by decide +kernel
theorem dX9_totalOfPeriods_17 : decode cX9_totalOfPeriods 17 = .ok (.aload_n 0, 1) := by decide +kernel
theorem dX9_totalOfPeriods_18 : decode cX9_totalOfPeriods 18 = .ok (.iload 5, 2) := by decide +kernel
theorem dX9_totalOfPeriods_20 : decode cX9_totalOfPeriods 20 = .ok (.iload_n 2, 1) := by decide +kernel
theorem dX9_totalOfPeriods_21 : decode cX9_totalOfPeriods 21 = .ok (.invokevirtual 20, 3) := by decide +kernel
theorem dX9_totalOfPeriods_24 : decode cX9_totalOfPeriods 24 = .ok (.i2l, 1) := by decide +kernel
theorem dX9_totalOfPeriods_25 : decode cX9_totalOfPeriods 25 = .ok (.ladd, 1) := by decide +kernel
theorem dX9_totalOfPeriods_26 : decode cX9_totalOfPeriods 26 = .ok (.lstore_n 3, 1) := by decide +kernel
theorem dX9_totalOfPeriods_27 : decode cX9_totalOfPeriods 27 = .ok (.iinc 5 1, 3) := by decide +kernel
theorem dX9_totalOfPeriods_30 : decode cX9_totalOfPeriods 30 = .ok (.goto (-25), 3) := by decide +kernel
theorem dX9_totalOfPeriods_33 : decode cX9_totalOfPeriods 33 = .ok (.lload_n 3, 1) := by decide +kernel
theorem dX9_totalOfPeriods_34 : decode cX9_totalOfPeriods 34 = .ok (.lreturn, 1) := by decide +kernel
theorem dX9_totalOf_0 : decode cX9_totalOf 0 = .ok (.iconst 0, 1) := by decide +kernel
theorem dX9_totalOf_1 : decode cX9_totalOf 1 = .ok (.istore_n 3, 1) := by decide +kernel
theorem dX9_totalOf_2 : decode cX9_totalOf 2 = .ok (.iconst 0, 1) := by decide +kernel
theorem dX9_totalOf_3 : decode cX9_totalOf 3 = .ok (.istore 4, 2) := by decide +kernel
theorem dX9_totalOf_5 : decode cX9_totalOf 5 = .ok (.iload 4, 2) := by decide +kernel
theorem dX9_totalOf_7 : decode cX9_totalOf 7 = .ok (.iload_n 2, 1) := by decide +kernel
theorem dX9_totalOf_8 : decode cX9_totalOf 8 = .ok (.if_icmp .gt 28, 3) := by decide +kernel
theorem dX9_totalOf_11 : decode cX9_totalOf 11 = .ok (.iload 4, 2) := by decide +kernel
theorem dX9_totalOf_13 : decode cX9_totalOf 13 = .ok (.bipush 6, 2) := by decide +kernel
theorem dX9_totalOf_15 : decode cX9_totalOf 15 = .ok (.if_icmp .ge 21, 3) := by decide +kernel
theorem dX9_totalOf_18 : decode cX9_totalOf 18 = .ok (.iload_n 3, 1) := by decide +kernel
theorem dX9_totalOf_19 : decode cX9_totalOf 19 = .ok (.aload_n 0, 1) := by decide +kernel
theorem dX9_totalOf_20 : decode cX9_totalOf 20 = .ok (.getfield 11, 3) := by decide +kernel
theorem dX9_totalOf_23 : decode cX9_totalOf 23 = .ok (.iload_n 1, 1) := by decide +kernel
theorem dX9_totalOf_24 : decode cX9_totalOf 24 = .ok (.aaload, 1) := by decide +kernel
theorem dX9_totalOf_25 : decode cX9_totalOf 25 = .ok (.iload 4, 2) := by decide +kernel
theorem dX9_totalOf_27 : decode cX9_totalOf 27 = .ok (.iaload, 1) := by decide +kernel
theorem dX9_totalOf_28 : decode cX9_totalOf 28 = .ok (.iadd, 1) := by decide +kernel
theorem dX9_totalOf_29 : decode cX9_totalOf 29 = .ok (.istore_n 3, 1) := by decide +kernel
theorem dX9_totalOf_30 : decode cX9_totalOf 30 = .ok (.iinc 4 1, 3) := by decide +kernel
theorem dX9_totalOf_33 : decode cX9_totalOf 33 = .ok (.goto (-28), 3) := by decide +kernel
theorem dX9_totalOf_36 : decode cX9_totalOf 36 = .ok (.iload_n 3, 1) := by decide +kernel
theorem dX9_totalOf_37 : decode cX9_totalOf 37 = .ok (.ireturn, 1) := by decide +kernel
theorem dX9_sumOfUnpaid_0 : decode cX9_sumOfUnpaid 0 = .ok (.iconst 0, 1) := by decide +kernel
theorem dX9_sumOfUnpaid_1 : decode cX9_sumOfUnpaid 1 = .ok (.istore_n 2, 1) := by decide +kernel
theorem dX9_sumOfUnpaid_2 : decode cX9_sumOfUnpaid 2 = .ok (.iconst 0, 1) := by decide +kernel
theorem dX9_sumOfUnpaid_3 : decode cX9_sumOfUnpaid 3 = .ok (.istore_n 3, 1) := by decide +kernel
theorem dX9_sumOfUnpaid_4 : decode cX9_sumOfUnpaid 4 = .ok (.iload_n 3, 1) := by decide +kernel
theorem dX9_sumOfUnpaid_5 : decode cX9_sumOfUnpaid 5 = .ok (.iload_n 1, 1) := by decide +kernel
theorem dX9_sumOfUnpaid_6 : decode cX9_sumOfUnpaid 6 = .ok (.iconst 5, 1) := by decide +kernel
theorem dX9_sumOfUnpaid_7 : decode cX9_sumOfUnpaid 7 = .ok (.invokestatic 36, 3) := by decide +kernel
theorem dX9_sumOfUnpaid_10 : decode cX9_sumOfUnpaid 10 = .ok (.if_icmp .gt 25, 3) := by decide +kernel
theorem dX9_sumOfUnpaid_13 : decode cX9_sumOfUnpaid 13 = .ok (.iload_n 2, 1) := by decide +kernel
theorem dX9_sumOfUnpaid_14 : decode cX9_sumOfUnpaid 14 = .ok (.aload_n 0, 1) := by decide +kernel
theorem dX9_sumOfUnpaid_15 : decode cX9_sumOfUnpaid 15 = .ok (.iload_n 3, 1) := by decide +kernel
theorem dX9_sumOfUnpaid_16 : decode cX9_sumOfUnpaid 16 = .ok (.iload_n 1, 1) := by decide +kernel
theorem dX9_sumOfUnpaid_17 : decode cX9_sumOfUnpaid 17 = .ok (.invokevirtual 41, 3) := by decide +kernel
theorem dX9_sumOfUnpaid_20 : decode cX9_sumOfUnpaid 20 = .ok (.aload_n 0, 1) := by decide +kernel
theorem dX9_sumOfUnpaid_21 : decode cX9_sumOfUnpaid 21 = .ok (.iload_n 3, 1) := by decide +kernel
theorem dX9_sumOfUnpaid_22 : decode cX9_sumOfUnpaid 22 = .ok (.iconst 5, 1) := by decide +kernel
theorem dX9_sumOfUnpaid_23 : decode cX9_sumOfUnpaid 23 = .ok (.invokevirtual 20, 3) := by decide +kernel
theorem dX9_sumOfUnpaid_26 : decode cX9_sumOfUnpaid 26 = .ok (.isub, 1) := by decide +kernel
theorem dX9_sumOfUnpaid_27 : decode cX9_sumOfUnpaid 27 = .ok (.iadd, 1) := by decide +kernel
theorem dX9_sumOfUnpaid_28 : decode cX9_sumOfUnpaid 28 = .ok (.istore_n 2, 1) := by decide +kernel
theorem dX9_sumOfUnpaid_29 : decode cX9_sumOfUnpaid 29 = .ok (.iinc 3 1, 3) := by decide +kernel
theorem dX9_sumOfUnpaid_32 : decode cX9_sumOfUnpaid 32 = .ok (.goto (-28), 3) := by decide +kernel
theorem dX9_sumOfUnpaid_35 : decode cX9_sumOfUnpaid 35 = .ok (.iload_n 2, 1) := by decide +kernel
theorem dX9_sumOfUnpaid_36 : decode cX9_sumOfUnpaid 36 = .ok (.ireturn, 1) := by decide +kernel
theorem dX11_init_0 : decode cX11_init 0 = .ok (.aload_n 0, 1) := by decide +kernel
theorem dX11_init_1 : decode cX11_init 1 = .ok (.invokespecial 1, 3) := by decide +kernel
theorem dX11_init_4 : decode cX11_init 4 = .ok (.aload_n 0, 1) := by decide +kernel
theorem dX11_init_5 : decode cX11_init 5 = .ok (.new 7, 3) := by decide +kernel
theorem dX11_init_8 : decode cX11_init 8 = .ok (.dup, 1) := by decide +kernel
theorem dX11_init_9 : decode cX11_init 9 = .ok (.invokespecial 9, 3) := by decide +kernel
theorem dX11_init_12 : decode cX11_init 12 = .ok (.putfield 10, 3) := by decide +kernel
theorem dX11_init_15 : decode cX11_init 15 = .ok (.aload_n 0, 1) := by decide +kernel
theorem dX11_init_16 : decode cX11_init 16 = .ok (.new 7, 3) := by decide +kernel
theorem dX11_init_19 : decode cX11_init 19 = .ok (.dup, 1) := by decide +kernel
theorem dX11_init_20 : decode cX11_init 20 = .ok (.invokespecial 9, 3) := by decide +kernel
theorem dX11_init_23 : decode cX11_init 23 = .ok (.putfield 16, 3) := by decide +kernel
theorem dX11_init_26 : decode cX11_init 26 = .ok (.aload_n 0, 1) := by decide +kernel
theorem dX11_init_27 : decode cX11_init 27 = .ok (.new 19, 3) := by decide +kernel
theorem dX11_init_30 : decode cX11_init 30 = .ok (.dup, 1) := by decide +kernel
theorem dX11_init_31 : decode cX11_init 31 = .ok (.invokespecial 21, 3) := by decide +kernel
theorem dX11_init_34 : decode cX11_init 34 = .ok (.putfield 22, 3) := by decide +kernel
theorem dX11_init_37 : decode cX11_init 37 = .ok (.aload_n 0, 1) := by decide +kernel
theorem dX11_init_38 : decode cX11_init 38 = .ok (.new 26, 3) := by decide +kernel
theorem dX11_init_41 : decode cX11_init 41 = .ok (.dup, 1) := by decide +kernel
theorem dX11_init_42 : decode cX11_init 42 = .ok (.invokespecial 28, 3) := by decide +kernel
theorem dX11_init_45 : decode cX11_init 45 = .ok (.putfield 29, 3) := by decide +kernel
theorem dX11_init_48 : decode cX11_init 48 = .ok (.aload_n 0, 1) := by decide +kernel
theorem dX11_init_49 : decode cX11_init 49 = .ok (.new 33, 3) := by decide +kernel
theorem dX11_init_52 : decode cX11_init 52 = .ok (.dup, 1) := by decide +kernel
theorem dX11_init_53 : decode cX11_init 53 = .ok (.invokespecial 35, 3) := by decide +kernel
theorem dX11_init_56 : decode cX11_init 56 = .ok (.putfield 36, 3) := by decide +kernel
theorem dX11_init_59 : decode cX11_init 59 = .ok (.aload_n 0, 1) := by decide +kernel
theorem dX11_init_60 : decode cX11_init 60 = .ok (.iconst 0, 1) := by decide +kernel
theorem dX11_init_61 : decode cX11_init 61 = .ok (.putfield 40, 3) := by decide +kernel
theorem dX11_init_64 : decode cX11_init 64 = .ok (.aload_n 0, 1) := by decide +kernel
theorem dX11_init_65 : decode cX11_init 65 = .ok (.iconst (-1), 1) := by decide +kernel
theorem dX11_init_66 : decode cX11_init 66 = .ok (.putfield 44, 3) := by decide +kernel
theorem dX11_init_69 : decode cX11_init 69 = .ok (.aload_n 0, 1) := by decide +kernel
theorem dX11_init_70 : decode cX11_init 70 = .ok (.iconst (-1), 1) := by decide +kernel
theorem dX11_init_71 : decode cX11_init 71 = .ok (.putfield 48, 3) := by decide +kernel
theorem dX11_init_74 : decode cX11_init 74 = .ok (.return_, 1) := by decide +kernel
theorem dX11_insure_0 : decode cX11_insure 0 = .ok (.aload_n 0, 1) := by decide +kernel
theorem dX11_insure_1 : decode cX11_insure 1 = .ok (.getfield 22, 3) := by decide +kernel
theorem dX11_insure_4 : decode cX11_insure 4 = .ok (.aload_n 0, 1) := by decide +kernel
theorem dX11_insure_5 : decode cX11_insure 5 = .ok (.getfield 10, 3) := by decide +kernel
theorem dX11_insure_8 : decode cX11_insure 8 = .ok (.invokevirtual 51, 3) := by decide +kernel
theorem dX11_insure_11 : decode cX11_insure 11 = .ok (.aload_n 0, 1) := by decide +kernel
theorem dX11_insure_12 : decode cX11_insure 12 = .ok (.aload_n 0, 1) := by decide +kernel
theorem dX11_insure_13 : decode cX11_insure 13 = .ok (.getfield 10, 3) := by decide +kernel
theorem dX11_insure_16 : decode cX11_insure 16 = .ok (.iload_n 1, 1) := by decide +kernel
theorem dX11_insure_17 : decode cX11_insure 17 = .ok (.iload_n 2, 1) := by decide +kernel
theorem dX11_insure_18 : decode cX11_insure 18 = .ok (.iload_n 3, 1) := by decide +kernel
theorem dX11_insure_19 : decode cX11_insure 19 = .ok (.invokevirtual 55, 3) := by decide +kernel
theorem dX11_insure_22 : decode cX11_insure 22 = .ok (.invokevirtual 59, 3) := by decide +kernel
theorem dX11_insure_25 : decode cX11_insure 25 = .ok (.ireturn, 1) := by decide +kernel
theorem dX11_endPolicy_0 : decode cX11_endPolicy 0 = .ok (.aload_n 0, 1) := by decide +kernel
theorem dX11_endPolicy_1 : decode cX11_endPolicy 1 = .ok (.getfield 22, 3) := by decide +kernel
theorem dX11_endPolicy_4 : decode cX11_endPolicy 4 = .ok (.aload_n 0, 1) := by decide +kernel
theorem dX11_endPolicy_5 : decode cX11_endPolicy 5 = .ok (.getfield 10, 3) := by decide +kernel
theorem dX11_endPolicy_8 : decode cX11_endPolicy 8 = .ok (.invokevirtual 51, 3) := by decide +kernel
theorem dX11_endPolicy_11 : decode cX11_endPolicy 11 = .ok (.aload_n 0, 1) := by decide +kernel
theorem dX11_endPolicy_12 : decode cX11_endPolicy 12 = .ok (.aload_n 0, 1) := by decide +kernel
theorem dX11_endPolicy_13 : decode cX11_endPolicy 13 = .ok (.getfield 10, 3) := by decide +kernel
theorem dX11_endPolicy_16 : decode cX11_endPolicy 16 = .ok (.iload_n 1, 1) := by decide +kernel
theorem dX11_endPolicy_17 : decode cX11_endPolicy 17 = .ok (.invokevirtual 63, 3) := by decide +kernel
theorem dX11_endPolicy_20 : decode cX11_endPolicy 20 = .ok (.invokevirtual 59, 3) := by decide +kernel
theorem dX11_endPolicy_23 : decode cX11_endPolicy 23 = .ok (.ireturn, 1) := by decide +kernel
theorem dX11_addTreaty_0 : decode cX11_addTreaty 0 = .ok (.aload_n 0, 1) := by decide +kernel
theorem dX11_addTreaty_1 : decode cX11_addTreaty 1 = .ok (.getfield 22, 3) := by decide +kernel
theorem dX11_addTreaty_4 : decode cX11_addTreaty 4 = .ok (.aload_n 0, 1) := by decide +kernel
theorem dX11_addTreaty_5 : decode cX11_addTreaty 5 = .ok (.getfield 10, 3) := by decide +kernel
theorem dX11_addTreaty_8 : decode cX11_addTreaty 8 = .ok (.invokevirtual 51, 3) := by decide +kernel
theorem dX11_addTreaty_11 : decode cX11_addTreaty 11 = .ok (.aload_n 0, 1) := by decide +kernel
theorem dX11_addTreaty_12 : decode cX11_addTreaty 12 = .ok (.aload_n 0, 1) := by decide +kernel
theorem dX11_addTreaty_13 : decode cX11_addTreaty 13 = .ok (.getfield 10, 3) := by decide +kernel
theorem dX11_addTreaty_16 : decode cX11_addTreaty 16 = .ok (.iload_n 1, 1) := by decide +kernel
theorem dX11_addTreaty_17 : decode cX11_addTreaty 17 = .ok (.iload_n 2, 1) := by decide +kernel
theorem dX11_addTreaty_18 : decode cX11_addTreaty 18 = .ok (.iload_n 3, 1) := by decide +kernel
theorem dX11_addTreaty_19 : decode cX11_addTreaty 19 = .ok (.iload 4, 2) := by decide +kernel
theorem dX11_addTreaty_21 : decode cX11_addTreaty 21 = .ok (.invokevirtual 66, 3) := by decide +kernel
theorem dX11_addTreaty_24 : decode cX11_addTreaty 24 = .ok (.invokevirtual 59, 3) := by decide +kernel
theorem dX11_addTreaty_27 : decode cX11_addTreaty 27 = .ok (.ireturn, 1) := by decide +kernel
theorem dX11_dropTreaty_0 : decode cX11_dropTreaty 0 = .ok (.aload_n 0, 1) := by decide +kernel
theorem dX11_dropTreaty_1 : decode cX11_dropTreaty 1 = .ok (.getfield 22, 3) := by decide +kernel
theorem dX11_dropTreaty_4 : decode cX11_dropTreaty 4 = .ok (.aload_n 0, 1) := by decide +kernel
theorem dX11_dropTreaty_5 : decode cX11_dropTreaty 5 = .ok (.getfield 10, 3) := by decide +kernel
theorem dX11_dropTreaty_8 : decode cX11_dropTreaty 8 = .ok (.invokevirtual 51, 3) := by decide +kernel
theorem dX11_dropTreaty_11 : decode cX11_dropTreaty 11 = .ok (.aload_n 0, 1) := by decide +kernel
theorem dX11_dropTreaty_12 : decode cX11_dropTreaty 12 = .ok (.aload_n 0, 1) := by decide +kernel
theorem dX11_dropTreaty_13 : decode cX11_dropTreaty 13 = .ok (.getfield 10, 3) := by decide +kernel
theorem dX11_dropTreaty_16 : decode cX11_dropTreaty 16 = .ok (.iload_n 1, 1) := by decide +kernel
theorem dX11_dropTreaty_17 : decode cX11_dropTreaty 17 = .ok (.invokevirtual 70, 3) := by decide +kernel
theorem dX11_dropTreaty_20 : decode cX11_dropTreaty 20 = .ok (.invokevirtual 59, 3) := by decide +kernel
theorem dX11_dropTreaty_23 : decode cX11_dropTreaty 23 = .ok (.ireturn, 1) := by decide +kernel
theorem dX11_claim_0 : decode cX11_claim 0 = .ok (.aload_n 0, 1) := by decide +kernel
theorem dX11_claim_1 : decode cX11_claim 1 = .ok (.getfield 22, 3) := by decide +kernel
theorem dX11_claim_4 : decode cX11_claim 4 = .ok (.aload_n 0, 1) := by decide +kernel
theorem dX11_claim_5 : decode cX11_claim 5 = .ok (.getfield 10, 3) := by decide +kernel
theorem dX11_claim_8 : decode cX11_claim 8 = .ok (.invokevirtual 51, 3) := by decide +kernel
theorem dX11_claim_11 : decode cX11_claim 11 = .ok (.aload_n 0, 1) := by decide +kernel
theorem dX11_claim_12 : decode cX11_claim 12 = .ok (.aload_n 0, 1) := by decide +kernel
theorem dX11_claim_13 : decode cX11_claim 13 = .ok (.getfield 10, 3) := by decide +kernel
theorem dX11_claim_16 : decode cX11_claim 16 = .ok (.iload_n 1, 1) := by decide +kernel
theorem dX11_claim_17 : decode cX11_claim 17 = .ok (.iload_n 2, 1) := by decide +kernel
theorem dX11_claim_18 : decode cX11_claim 18 = .ok (.iload_n 3, 1) := by decide +kernel
theorem dX11_claim_19 : decode cX11_claim 19 = .ok (.invokevirtual 73, 3) := by decide +kernel
theorem dX11_claim_22 : decode cX11_claim 22 = .ok (.invokevirtual 59, 3) := by decide +kernel
theorem dX11_claim_25 : decode cX11_claim 25 = .ok (.ireturn, 1) := by decide +kernel
theorem dX11_pay_0 : decode cX11_pay 0 = .ok (.aload_n 0, 1) := by decide +kernel
theorem dX11_pay_1 : decode cX11_pay 1 = .ok (.getfield 22, 3) := by decide +kernel
theorem dX11_pay_4 : decode cX11_pay 4 = .ok (.aload_n 0, 1) := by decide +kernel
theorem dX11_pay_5 : decode cX11_pay 5 = .ok (.getfield 10, 3) := by decide +kernel
theorem dX11_pay_8 : decode cX11_pay 8 = .ok (.invokevirtual 51, 3) := by decide +kernel
theorem dX11_pay_11 : decode cX11_pay 11 = .ok (.aload_n 0, 1) := by decide +kernel
theorem dX11_pay_12 : decode cX11_pay 12 = .ok (.aload_n 0, 1) := by decide +kernel
theorem dX11_pay_13 : decode cX11_pay 13 = .ok (.getfield 10, 3) := by decide +kernel
theorem dX11_pay_16 : decode cX11_pay 16 = .ok (.iload_n 1, 1) := by decide +kernel
theorem dX11_pay_17 : decode cX11_pay 17 = .ok (.iload_n 2, 1) := by decide +kernel
theorem dX11_pay_18 : decode cX11_pay 18 = .ok (.invokevirtual 77, 3) := by decide +kernel
theorem dX11_pay_21 : decode cX11_pay 21 = .ok (.invokevirtual 59, 3) := by decide +kernel
theorem dX11_pay_24 : decode cX11_pay 24 = .ok (.ireturn, 1) := by decide +kernel
theorem dX11_closeClaim_0 : decode cX11_closeClaim 0 = .ok (.aload_n 0, 1) := by decide +kernel
theorem dX11_closeClaim_1 : decode cX11_closeClaim 1 = .ok (.getfield 22, 3) := by decide +kernel
theorem dX11_closeClaim_4 : decode cX11_closeClaim 4 = .ok (.aload_n 0, 1) := by decide +kernel
theorem dX11_closeClaim_5 : decode cX11_closeClaim 5 = .ok (.getfield 10, 3) := by decide +kernel
theorem dX11_closeClaim_8 : decode cX11_closeClaim 8 = .ok (.invokevirtual 51, 3) := by decide +kernel
theorem dX11_closeClaim_11 : decode cX11_closeClaim 11 = .ok (.aload_n 0, 1) := by decide +kernel
theorem dX11_closeClaim_12 : decode cX11_closeClaim 12 = .ok (.aload_n 0, 1) := by decide +kernel
theorem dX11_closeClaim_13 : decode cX11_closeClaim 13 = .ok (.getfield 10, 3) := by decide +kernel
theorem dX11_closeClaim_16 : decode cX11_closeClaim 16 = .ok (.iload_n 1, 1) := by decide +kernel
theorem dX11_closeClaim_17 : decode cX11_closeClaim 17 = .ok (.invokevirtual 81, 3) := by decide +kernel
theorem dX11_closeClaim_20 : decode cX11_closeClaim 20 = .ok (.invokevirtual 59, 3) := by decide +kernel
theorem dX11_closeClaim_23 : decode cX11_closeClaim 23 = .ok (.ireturn, 1) := by decide +kernel
theorem dX11_withdrawClaim_0 : decode cX11_withdrawClaim 0 = .ok (.aload_n 0, 1) := by decide +kernel
theorem dX11_withdrawClaim_1 : decode cX11_withdrawClaim 1 = .ok (.getfield 22, 3) := by decide +kernel
theorem dX11_withdrawClaim_4 : decode cX11_withdrawClaim 4 = .ok (.aload_n 0, 1) := by decide +kernel
theorem dX11_withdrawClaim_5 : decode cX11_withdrawClaim 5 = .ok (.getfield 10, 3) := by decide +kernel
theorem dX11_withdrawClaim_8 : decode cX11_withdrawClaim 8 = .ok (.invokevirtual 51, 3) := by decide +kernel
theorem dX11_withdrawClaim_11 : decode cX11_withdrawClaim 11 = .ok (.aload_n 0, 1) := by decide +kernel
theorem dX11_withdrawClaim_12 : decode cX11_withdrawClaim 12 = .ok (.aload_n 0, 1) := by decide +kernel
theorem dX11_withdrawClaim_13 : decode cX11_withdrawClaim 13 = .ok (.getfield 10, 3) := by decide +kernel
theorem dX11_withdrawClaim_16 : decode cX11_withdrawClaim 16 = .ok (.iload_n 1, 1) := by decide +kernel
theorem dX11_withdrawClaim_17 : decode cX11_withdrawClaim 17 = .ok (.invokevirtual 84, 3) := by decide +kernel
theorem dX11_withdrawClaim_20 : decode cX11_withdrawClaim 20 = .ok (.invokevirtual 59, 3) := by decide +kernel
theorem dX11_withdrawClaim_23 : decode cX11_withdrawClaim 23 = .ok (.ireturn, 1) := by decide +kernel
theorem dX11_addOffer_0 : decode cX11_addOffer 0 = .ok (.aload_n 0, 1) := by decide +kernel
theorem dX11_addOffer_1 : decode cX11_addOffer 1 = .ok (.getfield 22, 3) := by decide +kernel
theorem dX11_addOffer_4 : decode cX11_addOffer 4 = .ok (.aload_n 0, 1) := by decide +kernel
theorem dX11_addOffer_5 : decode cX11_addOffer 5 = .ok (.getfield 10, 3) := by decide +kernel
theorem dX11_addOffer_8 : decode cX11_addOffer 8 = .ok (.invokevirtual 51, 3) := by decide +kernel
theorem dX11_addOffer_11 : decode cX11_addOffer 11 = .ok (.aload_n 0, 1) := by decide +kernel
theorem dX11_addOffer_12 : decode cX11_addOffer 12 = .ok (.aload_n 0, 1) := by decide +kernel
theorem dX11_addOffer_13 : decode cX11_addOffer 13 = .ok (.getfield 10, 3) := by decide +kernel
theorem dX11_addOffer_16 : decode cX11_addOffer 16 = .ok (.getfield 87, 3) := by decide +kernel
theorem dX11_addOffer_19 : decode cX11_addOffer 19 = .ok (.iload_n 1, 1) := by decide +kernel
theorem dX11_addOffer_20 : decode cX11_addOffer 20 = .ok (.iload_n 2, 1) := by decide +kernel
theorem dX11_addOffer_21 : decode cX11_addOffer 21 = .ok (.iload_n 3, 1) := by decide +kernel
theorem dX11_addOffer_22 : decode cX11_addOffer 22 = .ok (.invokevirtual 91, 3) := by decide +kernel
theorem dX11_addOffer_25 : decode cX11_addOffer 25 = .ok (.invokevirtual 59, 3) := by decide +kernel
theorem dX11_addOffer_28 : decode cX11_addOffer 28 = .ok (.ireturn, 1) := by decide +kernel
theorem dX11_dropOffer_0 : decode cX11_dropOffer 0 = .ok (.aload_n 0, 1) := by decide +kernel
theorem dX11_dropOffer_1 : decode cX11_dropOffer 1 = .ok (.getfield 22, 3) := by decide +kernel
theorem dX11_dropOffer_4 : decode cX11_dropOffer 4 = .ok (.aload_n 0, 1) := by decide +kernel
theorem dX11_dropOffer_5 : decode cX11_dropOffer 5 = .ok (.getfield 10, 3) := by decide +kernel
theorem dX11_dropOffer_8 : decode cX11_dropOffer 8 = .ok (.invokevirtual 51, 3) := by decide +kernel
theorem dX11_dropOffer_11 : decode cX11_dropOffer 11 = .ok (.aload_n 0, 1) := by decide +kernel
theorem dX11_dropOffer_12 : decode cX11_dropOffer 12 = .ok (.aload_n 0, 1) := by decide +kernel
theorem dX11_dropOffer_13 : decode cX11_dropOffer 13 = .ok (.getfield 10, 3) := by decide +kernel
theorem dX11_dropOffer_16 : decode cX11_dropOffer 16 = .ok (.getfield 87, 3) := by decide +kernel
theorem dX11_dropOffer_19 : decode cX11_dropOffer 19 = .ok (.iload_n 1, 1) := by decide +kernel
theorem dX11_dropOffer_20 : decode cX11_dropOffer 20 = .ok (.invokevirtual 96, 3) := by decide +kernel
theorem dX11_dropOffer_23 : decode cX11_dropOffer 23 = .ok (.invokevirtual 59, 3) := by decide +kernel
theorem dX11_dropOffer_26 : decode cX11_dropOffer 26 = .ok (.ireturn, 1) := by decide +kernel
theorem dX11_passDays_0 : decode cX11_passDays 0 = .ok (.aload_n 0, 1) := by decide +kernel
theorem dX11_passDays_1 : decode cX11_passDays 1 = .ok (.getfield 22, 3) := by decide +kernel
theorem dX11_passDays_4 : decode cX11_passDays 4 = .ok (.aload_n 0, 1) := by decide +kernel
theorem dX11_passDays_5 : decode cX11_passDays 5 = .ok (.getfield 10, 3) := by decide +kernel
theorem dX11_passDays_8 : decode cX11_passDays 8 = .ok (.invokevirtual 51, 3) := by decide +kernel
theorem dX11_passDays_11 : decode cX11_passDays 11 = .ok (.aload_n 0, 1) := by decide +kernel
theorem dX11_passDays_12 : decode cX11_passDays 12 = .ok (.aload_n 0, 1) := by decide +kernel
theorem dX11_passDays_13 : decode cX11_passDays 13 = .ok (.getfield 10, 3) := by decide +kernel
theorem dX11_passDays_16 : decode cX11_passDays 16 = .ok (.iload_n 1, 1) := by decide +kernel
theorem dX11_passDays_17 : decode cX11_passDays 17 = .ok (.invokevirtual 99, 3) := by decide +kernel
theorem dX11_passDays_20 : decode cX11_passDays 20 = .ok (.invokevirtual 59, 3) := by decide +kernel
theorem dX11_passDays_23 : decode cX11_passDays 23 = .ok (.ireturn, 1) := by decide +kernel
theorem dX11_day_0 : decode cX11_day 0 = .ok (.aload_n 0, 1) := by decide +kernel
theorem dX11_day_1 : decode cX11_day 1 = .ok (.getfield 10, 3) := by decide +kernel
theorem dX11_day_4 : decode cX11_day 4 = .ok (.getfield 102, 3) := by decide +kernel
theorem dX11_day_7 : decode cX11_day 7 = .ok (.ireturn, 1) := by decide +kernel
theorem dX11_cash_0 : decode cX11_cash 0 = .ok (.aload_n 0, 1) := by decide +kernel
theorem dX11_cash_1 : decode cX11_cash 1 = .ok (.getfield 10, 3) := by decide +kernel
theorem dX11_cash_4 : decode cX11_cash 4 = .ok (.getfield 105, 3) := by decide +kernel
theorem dX11_cash_7 : decode cX11_cash 7 = .ok (.ireturn, 1) := by decide +kernel
theorem dX11_policyCount_0 : decode cX11_policyCount 0 = .ok (.aload_n 0, 1) := by decide +kernel
theorem dX11_policyCount_1 : decode cX11_policyCount 1 = .ok (.getfield 10, 3) := by decide +kernel
theorem dX11_policyCount_4 : decode cX11_policyCount 4 = .ok (.getfield 108, 3) := by decide +kernel
theorem dX11_policyCount_7 : decode cX11_policyCount 7 = .ok (.getfield 112, 3) := by decide +kernel
theorem dX11_policyCount_10 : decode cX11_policyCount 10 = .ok (.ireturn, 1) := by decide +kernel
theorem dX11_policyAt_0 : decode cX11_policyAt 0 = .ok (.aload_n 0, 1) := by decide +kernel
theorem dX11_policyAt_1 : decode cX11_policyAt 1 = .ok (.getfield 10, 3) := by decide +kernel
theorem dX11_policyAt_4 : decode cX11_policyAt 4 = .ok (.getfield 108, 3) := by decide +kernel
theorem dX11_policyAt_7 : decode cX11_policyAt 7 = .ok (.getfield 117, 3) := by decide +kernel
theorem dX11_policyAt_10 : decode cX11_policyAt 10 = .ok (.iload_n 1, 1) := by decide +kernel
theorem dX11_policyAt_11 : decode cX11_policyAt 11 = .ok (.aload_n 0, 1) := by decide +kernel
theorem dX11_policyAt_12 : decode cX11_policyAt 12 = .ok (.getfield 10, 3) := by decide +kernel
theorem dX11_policyAt_15 : decode cX11_policyAt 15 = .ok (.getfield 108, 3) := by decide +kernel
theorem dX11_policyAt_18 : decode cX11_policyAt 18 = .ok (.getfield 112, 3) := by decide +kernel
theorem dX11_policyAt_21 : decode cX11_policyAt 21 = .ok (.invokestatic 121, 3) := by decide +kernel
theorem dX11_policyAt_24 : decode cX11_policyAt 24 = .ok (.iaload, 1) := by decide +kernel
theorem dX11_policyAt_25 : decode cX11_policyAt 25 = .ok (.ireturn, 1) := by decide +kernel
theorem dX11_sumOf_0 : decode cX11_sumOf 0 = .ok (.aload_n 0, 1) := by decide +kernel
theorem dX11_sumOf_1 : decode cX11_sumOf 1 = .ok (.getfield 10, 3) := by decide +kernel
theorem dX11_sumOf_4 : decode cX11_sumOf 4 = .ok (.getfield 108, 3) := by decide +kernel
theorem dX11_sumOf_7 : decode cX11_sumOf 7 = .ok (.getfield 124, 3) := by decide +kernel
theorem dX11_sumOf_10 : decode cX11_sumOf 10 = .ok (.aload_n 0, 1) := by decide +kernel
theorem dX11_sumOf_11 : decode cX11_sumOf 11 = .ok (.getfield 10, 3) := by decide +kernel
theorem dX11_sumOf_14 : decode cX11_sumOf 14 = .ok (.getfield 108, 3) := by decide +kernel
theorem dX11_sumOf_17 : decode cX11_sumOf 17 = .ok (.iload_n 1, 1) := by decide +kernel
theorem dX11_sumOf_18 : decode cX11_sumOf 18 = .ok (.invokevirtual 127, 3) := by decide +kernel
theorem dX11_sumOf_21 : decode cX11_sumOf 21 = .ok (.iaload, 1) := by decide +kernel
theorem dX11_sumOf_22 : decode cX11_sumOf 22 = .ok (.ireturn, 1) := by decide +kernel
theorem dX11_sumLeft_0 : decode cX11_sumLeft 0 = .ok (.aload_n 0, 1) := by decide +kernel
theorem dX11_sumLeft_1 : decode cX11_sumLeft 1 = .ok (.getfield 10, 3) := by decide +kernel
theorem dX11_sumLeft_4 : decode cX11_sumLeft 4 = .ok (.getfield 108, 3) := by decide +kernel
theorem dX11_sumLeft_7 : decode cX11_sumLeft 7 = .ok (.aload_n 0, 1) := by decide +kernel
theorem dX11_sumLeft_8 : decode cX11_sumLeft 8 = .ok (.getfield 10, 3) := by decide +kernel
theorem dX11_sumLeft_11 : decode cX11_sumLeft 11 = .ok (.getfield 108, 3) := by decide +kernel
theorem dX11_sumLeft_14 : decode cX11_sumLeft 14 = .ok (.iload_n 1, 1) := by decide +kernel
theorem dX11_sumLeft_15 : decode cX11_sumLeft 15 = .ok (.invokevirtual 127, 3) := by decide +kernel
theorem dX11_sumLeft_18 : decode cX11_sumLeft 18 = .ok (.invokevirtual 130, 3) := by decide +kernel
theorem dX11_sumLeft_21 : decode cX11_sumLeft 21 = .ok (.ireturn, 1) := by decide +kernel
theorem dX11_riskOf_0 : decode cX11_riskOf 0 = .ok (.aload_n 0, 1) := by decide +kernel
theorem dX11_riskOf_1 : decode cX11_riskOf 1 = .ok (.getfield 10, 3) := by decide +kernel
theorem dX11_riskOf_4 : decode cX11_riskOf 4 = .ok (.getfield 108, 3) := by decide +kernel
theorem dX11_riskOf_7 : decode cX11_riskOf 7 = .ok (.getfield 133, 3) := by decide +kernel
theorem dX11_riskOf_10 : decode cX11_riskOf 10 = .ok (.aload_n 0, 1) := by decide +kernel
theorem dX11_riskOf_11 : decode cX11_riskOf 11 = .ok (.getfield 10, 3) := by decide +kernel
theorem dX11_riskOf_14 : decode cX11_riskOf 14 = .ok (.getfield 108, 3) := by decide +kernel
theorem dX11_riskOf_17 : decode cX11_riskOf 17 = .ok (.iload_n 1, 1) := by decide +kernel
theorem dX11_riskOf_18 : decode cX11_riskOf 18 = .ok (.invokevirtual 127, 3) := by decide +kernel
theorem dX11_riskOf_21 : decode cX11_riskOf 21 = .ok (.iaload, 1) := by decide +kernel
theorem dX11_riskOf_22 : decode cX11_riskOf 22 = .ok (.ireturn, 1) := by decide +kernel
theorem dX11_premiumOf_0 : decode cX11_premiumOf 0 = .ok (.aload_n 0, 1) := by decide +kernel
theorem dX11_premiumOf_1 : decode cX11_premiumOf 1 = .ok (.getfield 10, 3) := by decide +kernel
theorem dX11_premiumOf_4 : decode cX11_premiumOf 4 = .ok (.getfield 108, 3) := by decide +kernel
theorem dX11_premiumOf_7 : decode cX11_premiumOf 7 = .ok (.getfield 136, 3) := by decide +kernel
theorem dX11_premiumOf_10 : decode cX11_premiumOf 10 = .ok (.aload_n 0, 1) := by decide +kernel
theorem dX11_premiumOf_11 : decode cX11_premiumOf 11 = .ok (.getfield 10, 3) := by decide +kernel
theorem dX11_premiumOf_14 : decode cX11_premiumOf 14 = .ok (.getfield 108, 3) := by decide +kernel
theorem dX11_premiumOf_17 : decode cX11_premiumOf 17 = .ok (.iload_n 1, 1) := by decide +kernel
theorem dX11_premiumOf_18 : decode cX11_premiumOf 18 = .ok (.invokevirtual 127, 3) := by decide +kernel
theorem dX11_premiumOf_21 : decode cX11_premiumOf 21 = .ok (.iaload, 1) := by decide +kernel
theorem dX11_premiumOf_22 : decode cX11_premiumOf 22 = .ok (.ireturn, 1) := by decide +kernel
theorem dX11_endOf_0 : decode cX11_endOf 0 = .ok (.aload_n 0, 1) := by decide +kernel
theorem dX11_endOf_1 : decode cX11_endOf 1 = .ok (.getfield 10, 3) := by decide +kernel
theorem dX11_endOf_4 : decode cX11_endOf 4 = .ok (.getfield 108, 3) := by decide +kernel
theorem dX11_endOf_7 : decode cX11_endOf 7 = .ok (.getfield 139, 3) := by decide +kernel
theorem dX11_endOf_10 : decode cX11_endOf 10 = .ok (.aload_n 0, 1) := by decide +kernel
theorem dX11_endOf_11 : decode cX11_endOf 11 = .ok (.getfield 10, 3) := by decide +kernel
theorem dX11_endOf_14 : decode cX11_endOf 14 = .ok (.getfield 108, 3) := by decide +kernel
theorem dX11_endOf_17 : decode cX11_endOf 17 = .ok (.iload_n 1, 1) := by decide +kernel
theorem dX11_endOf_18 : decode cX11_endOf 18 = .ok (.invokevirtual 127, 3) := by decide +kernel
theorem dX11_endOf_21 : decode cX11_endOf 21 = .ok (.iaload, 1) := by decide +kernel
theorem dX11_endOf_22 : decode cX11_endOf 22 = .ok (.ireturn, 1) := by decide +kernel
theorem dX11_isActive_0 : decode cX11_isActive 0 = .ok (.aload_n 0, 1) := by decide +kernel
theorem dX11_isActive_1 : decode cX11_isActive 1 = .ok (.getfield 10, 3) := by decide +kernel
theorem dX11_isActive_4 : decode cX11_isActive 4 = .ok (.getfield 108, 3) := by decide +kernel
theorem dX11_isActive_7 : decode cX11_isActive 7 = .ok (.aload_n 0, 1) := by decide +kernel
theorem dX11_isActive_8 : decode cX11_isActive 8 = .ok (.getfield 10, 3) := by decide +kernel
theorem dX11_isActive_11 : decode cX11_isActive 11 = .ok (.getfield 108, 3) := by decide +kernel
theorem dX11_isActive_14 : decode cX11_isActive 14 = .ok (.iload_n 1, 1) := by decide +kernel
theorem dX11_isActive_15 : decode cX11_isActive 15 = .ok (.invokevirtual 127, 3) := by decide +kernel
theorem dX11_isActive_18 : decode cX11_isActive 18 = .ok (.aload_n 0, 1) := by decide +kernel
theorem dX11_isActive_19 : decode cX11_isActive 19 = .ok (.getfield 10, 3) := by decide +kernel
theorem dX11_isActive_22 : decode cX11_isActive 22 = .ok (.getfield 102, 3) := by decide +kernel
theorem dX11_isActive_25 : decode cX11_isActive 25 = .ok (.invokevirtual 142, 3) := by decide +kernel
theorem dX11_isActive_28 : decode cX11_isActive 28 = .ok (.ireturn, 1) := by decide +kernel
theorem dX11_claimCount_0 : decode cX11_claimCount 0 = .ok (.aload_n 0, 1) := by decide +kernel
theorem dX11_claimCount_1 : decode cX11_claimCount 1 = .ok (.getfield 10, 3) := by decide +kernel
theorem dX11_claimCount_4 : decode cX11_claimCount 4 = .ok (.getfield 146, 3) := by decide +kernel
theorem dX11_claimCount_7 : decode cX11_claimCount 7 = .ok (.getfield 150, 3) := by decide +kernel
theorem dX11_claimCount_10 : decode cX11_claimCount 10 = .ok (.ireturn, 1) := by decide +kernel
theorem dX11_claimAt_0 : decode cX11_claimAt 0 = .ok (.aload_n 0, 1) := by decide +kernel
theorem dX11_claimAt_1 : decode cX11_claimAt 1 = .ok (.getfield 10, 3) := by decide +kernel
theorem dX11_claimAt_4 : decode cX11_claimAt 4 = .ok (.getfield 146, 3) := by decide +kernel
theorem dX11_claimAt_7 : decode cX11_claimAt 7 = .ok (.getfield 153, 3) := by decide +kernel
theorem dX11_claimAt_10 : decode cX11_claimAt 10 = .ok (.iload_n 1, 1) := by decide +kernel
theorem dX11_claimAt_11 : decode cX11_claimAt 11 = .ok (.aload_n 0, 1) := by decide +kernel
theorem dX11_claimAt_12 : decode cX11_claimAt 12 = .ok (.getfield 10, 3) := by decide +kernel
theorem dX11_claimAt_15 : decode cX11_claimAt 15 = .ok (.getfield 146, 3) := by decide +kernel
theorem dX11_claimAt_18 : decode cX11_claimAt 18 = .ok (.getfield 150, 3) := by decide +kernel
theorem dX11_claimAt_21 : decode cX11_claimAt 21 = .ok (.invokestatic 121, 3) := by decide +kernel
theorem dX11_claimAt_24 : decode cX11_claimAt 24 = .ok (.iaload, 1) := by decide +kernel
theorem dX11_claimAt_25 : decode cX11_claimAt 25 = .ok (.ireturn, 1) := by decide +kernel
theorem dX11_policyOf_0 : decode cX11_policyOf 0 = .ok (.aload_n 0, 1) := by decide +kernel
theorem dX11_policyOf_1 : decode cX11_policyOf 1 = .ok (.getfield 10, 3) := by decide +kernel
theorem dX11_policyOf_4 : decode cX11_policyOf 4 = .ok (.getfield 146, 3) := by decide +kernel
theorem dX11_policyOf_7 : decode cX11_policyOf 7 = .ok (.getfield 154, 3) := by decide +kernel
theorem dX11_policyOf_10 : decode cX11_policyOf 10 = .ok (.aload_n 0, 1) := by decide +kernel
theorem dX11_policyOf_11 : decode cX11_policyOf 11 = .ok (.getfield 10, 3) := by decide +kernel
theorem dX11_policyOf_14 : decode cX11_policyOf 14 = .ok (.getfield 146, 3) := by decide +kernel
theorem dX11_policyOf_17 : decode cX11_policyOf 17 = .ok (.iload_n 1, 1) := by decide +kernel
theorem dX11_policyOf_18 : decode cX11_policyOf 18 = .ok (.invokevirtual 156, 3) := by decide +kernel
theorem dX11_policyOf_21 : decode cX11_policyOf 21 = .ok (.iaload, 1) := by decide +kernel
theorem dX11_policyOf_22 : decode cX11_policyOf 22 = .ok (.ireturn, 1) := by decide +kernel
theorem dX11_causeOf_0 : decode cX11_causeOf 0 = .ok (.aload_n 0, 1) := by decide +kernel
theorem dX11_causeOf_1 : decode cX11_causeOf 1 = .ok (.getfield 10, 3) := by decide +kernel
theorem dX11_causeOf_4 : decode cX11_causeOf 4 = .ok (.getfield 146, 3) := by decide +kernel
theorem dX11_causeOf_7 : decode cX11_causeOf 7 = .ok (.getfield 157, 3) := by decide +kernel
theorem dX11_causeOf_10 : decode cX11_causeOf 10 = .ok (.aload_n 0, 1) := by decide +kernel
theorem dX11_causeOf_11 : decode cX11_causeOf 11 = .ok (.getfield 10, 3) := by decide +kernel
theorem dX11_causeOf_14 : decode cX11_causeOf 14 = .ok (.getfield 146, 3) := by decide +kernel
theorem dX11_causeOf_17 : decode cX11_causeOf 17 = .ok (.iload_n 1, 1) := by decide +kernel
theorem dX11_causeOf_18 : decode cX11_causeOf 18 = .ok (.invokevirtual 156, 3) := by decide +kernel
theorem dX11_causeOf_21 : decode cX11_causeOf 21 = .ok (.caload, 1) := by decide +kernel
theorem dX11_causeOf_22 : decode cX11_causeOf 22 = .ok (.ireturn, 1) := by decide +kernel
theorem dX11_amountOf_0 : decode cX11_amountOf 0 = .ok (.aload_n 0, 1) := by decide +kernel
theorem dX11_amountOf_1 : decode cX11_amountOf 1 = .ok (.getfield 10, 3) := by decide +kernel
theorem dX11_amountOf_4 : decode cX11_amountOf 4 = .ok (.getfield 146, 3) := by decide +kernel
theorem dX11_amountOf_7 : decode cX11_amountOf 7 = .ok (.getfield 161, 3) := by decide +kernel
theorem dX11_amountOf_10 : decode cX11_amountOf 10 = .ok (.aload_n 0, 1) := by decide +kernel
theorem dX11_amountOf_11 : decode cX11_amountOf 11 = .ok (.getfield 10, 3) := by decide +kernel
theorem dX11_amountOf_14 : decode cX11_amountOf 14 = .ok (.getfield 146, 3) := by decide +kernel
theorem dX11_amountOf_17 : decode cX11_amountOf 17 = .ok (.iload_n 1, 1) := by decide +kernel
theorem dX11_amountOf_18 : decode cX11_amountOf 18 = .ok (.invokevirtual 156, 3) := by decide +kernel
theorem dX11_amountOf_21 : decode cX11_amountOf 21 = .ok (.iaload, 1) := by decide +kernel
theorem dX11_amountOf_22 : decode cX11_amountOf 22 = .ok (.ireturn, 1) := by decide +kernel
theorem dX11_paidOf_0 : decode cX11_paidOf 0 = .ok (.aload_n 0, 1) := by decide +kernel
theorem dX11_paidOf_1 : decode cX11_paidOf 1 = .ok (.getfield 10, 3) := by decide +kernel
theorem dX11_paidOf_4 : decode cX11_paidOf 4 = .ok (.getfield 146, 3) := by decide +kernel
theorem dX11_paidOf_7 : decode cX11_paidOf 7 = .ok (.getfield 164, 3) := by decide +kernel
theorem dX11_paidOf_10 : decode cX11_paidOf 10 = .ok (.aload_n 0, 1) := by decide +kernel
theorem dX11_paidOf_11 : decode cX11_paidOf 11 = .ok (.getfield 10, 3) := by decide +kernel
theorem dX11_paidOf_14 : decode cX11_paidOf 14 = .ok (.getfield 146, 3) := by decide +kernel
theorem dX11_paidOf_17 : decode cX11_paidOf 17 = .ok (.iload_n 1, 1) := by decide +kernel
theorem dX11_paidOf_18 : decode cX11_paidOf 18 = .ok (.invokevirtual 156, 3) := by decide +kernel
theorem dX11_paidOf_21 : decode cX11_paidOf 21 = .ok (.iaload, 1) := by decide +kernel
theorem dX11_paidOf_22 : decode cX11_paidOf 22 = .ok (.ireturn, 1) := by decide +kernel
theorem dX11_borneBy_0 : decode cX11_borneBy 0 = .ok (.aload_n 0, 1) := by decide +kernel
theorem dX11_borneBy_1 : decode cX11_borneBy 1 = .ok (.getfield 10, 3) := by decide +kernel
theorem dX11_borneBy_4 : decode cX11_borneBy 4 = .ok (.getfield 146, 3) := by decide +kernel
theorem dX11_borneBy_7 : decode cX11_borneBy 7 = .ok (.iload_n 1, 1) := by decide +kernel
theorem dX11_borneBy_8 : decode cX11_borneBy 8 = .ok (.invokevirtual 156, 3) := by decide +kernel
theorem dX11_borneBy_11 : decode cX11_borneBy 11 = .ok (.istore_n 3, 1) := by decide +kernel
theorem dX11_borneBy_12 : decode cX11_borneBy 12 = .ok (.aload_n 0, 1) := by decide +kernel
theorem dX11_borneBy_13 : decode cX11_borneBy 13 = .ok (.getfield 10, 3) := by decide +kernel
theorem dX11_borneBy_16 : decode cX11_borneBy 16 = .ok (.getfield 146, 3) := by decide +kernel
theorem dX11_borneBy_19 : decode cX11_borneBy 19 = .ok (.getfield 167, 3) := by decide +kernel
theorem dX11_borneBy_22 : decode cX11_borneBy 22 = .ok (.iload_n 3, 1) := by decide +kernel
theorem dX11_borneBy_23 : decode cX11_borneBy 23 = .ok (.aaload, 1) := by decide +kernel
theorem dX11_borneBy_24 : decode cX11_borneBy 24 = .ok (.iload_n 2, 1) := by decide +kernel
theorem dX11_borneBy_25 : decode cX11_borneBy 25 = .ok (.aload_n 0, 1) := by decide +kernel
theorem dX11_borneBy_26 : decode cX11_borneBy 26 = .ok (.getfield 10, 3) := by decide +kernel
theorem dX11_borneBy_29 : decode cX11_borneBy 29 = .ok (.getfield 171, 3) := by decide +kernel
theorem dX11_borneBy_32 : decode cX11_borneBy 32 = .ok (.getfield 175, 3) := by decide +kernel
theorem dX11_borneBy_35 : decode cX11_borneBy 35 = .ok (.invokestatic 121, 3) := by decide +kernel
theorem dX11_borneBy_38 : decode cX11_borneBy 38 = .ok (.iaload, 1) := by decide +kernel
theorem dX11_borneBy_39 : decode cX11_borneBy 39 = .ok (.ireturn, 1) := by decide +kernel
theorem dX11_ownPart_0 : decode cX11_ownPart 0 = .ok (.aload_n 0, 1) := by decide +kernel
theorem dX11_ownPart_1 : decode cX11_ownPart 1 = .ok (.getfield 10, 3) := by decide +kernel
theorem dX11_ownPart_4 : decode cX11_ownPart 4 = .ok (.getfield 146, 3) := by decide +kernel
theorem dX11_ownPart_7 : decode cX11_ownPart 7 = .ok (.aload_n 0, 1) := by decide +kernel
theorem dX11_ownPart_8 : decode cX11_ownPart 8 = .ok (.getfield 10, 3) := by decide +kernel
theorem dX11_ownPart_11 : decode cX11_ownPart 11 = .ok (.getfield 146, 3) := by decide +kernel
theorem dX11_ownPart_14 : decode cX11_ownPart 14 = .ok (.iload_n 1, 1) := by decide +kernel
theorem dX11_ownPart_15 : decode cX11_ownPart 15 = .ok (.invokevirtual 156, 3) := by decide +kernel
theorem dX11_ownPart_18 : decode cX11_ownPart 18 = .ok (.invokevirtual 178, 3) := by decide +kernel
theorem dX11_ownPart_21 : decode cX11_ownPart 21 = .ok (.ireturn, 1) := by decide +kernel
theorem dX11_recovered_0 : decode cX11_recovered 0 = .ok (.aload_n 0, 1) := by decide +kernel
theorem dX11_recovered_1 : decode cX11_recovered 1 = .ok (.getfield 10, 3) := by decide +kernel
theorem dX11_recovered_4 : decode cX11_recovered 4 = .ok (.getfield 146, 3) := by decide +kernel
theorem dX11_recovered_7 : decode cX11_recovered 7 = .ok (.aload_n 0, 1) := by decide +kernel
theorem dX11_recovered_8 : decode cX11_recovered 8 = .ok (.getfield 10, 3) := by decide +kernel
theorem dX11_recovered_11 : decode cX11_recovered 11 = .ok (.getfield 146, 3) := by decide +kernel
theorem dX11_recovered_14 : decode cX11_recovered 14 = .ok (.iload_n 1, 1) := by decide +kernel
theorem dX11_recovered_15 : decode cX11_recovered 15 = .ok (.invokevirtual 156, 3) := by decide +kernel
theorem dX11_recovered_18 : decode cX11_recovered 18 = .ok (.invokevirtual 181, 3) := by decide +kernel
theorem dX11_recovered_21 : decode cX11_recovered 21 = .ok (.ireturn, 1) := by decide +kernel
theorem dX11_treatyCount_0 : decode cX11_treatyCount 0 = .ok (.aload_n 0, 1) := by decide +kernel
theorem dX11_treatyCount_1 : decode cX11_treatyCount 1 = .ok (.getfield 10, 3) := by decide +kernel
theorem dX11_treatyCount_4 : decode cX11_treatyCount 4 = .ok (.getfield 171, 3) := by decide +kernel
theorem dX11_treatyCount_7 : decode cX11_treatyCount 7 = .ok (.getfield 175, 3) := by decide +kernel
theorem dX11_treatyCount_10 : decode cX11_treatyCount 10 = .ok (.ireturn, 1) := by decide +kernel
theorem dX11_startOf_0 : decode cX11_startOf 0 = .ok (.aload_n 0, 1) := by decide +kernel
theorem dX11_startOf_1 : decode cX11_startOf 1 = .ok (.getfield 10, 3) := by decide +kernel
theorem dX11_startOf_4 : decode cX11_startOf 4 = .ok (.getfield 171, 3) := by decide +kernel
theorem dX11_startOf_7 : decode cX11_startOf 7 = .ok (.getfield 184, 3) := by decide +kernel
theorem dX11_startOf_10 : decode cX11_startOf 10 = .ok (.iload_n 1, 1) := by decide +kernel
theorem dX11_startOf_11 : decode cX11_startOf 11 = .ok (.aload_n 0, 1) := by decide +kernel
theorem dX11_startOf_12 : decode cX11_startOf 12 = .ok (.getfield 10, 3) := by decide +kernel
theorem dX11_startOf_15 : decode cX11_startOf 15 = .ok (.getfield 171, 3) := by decide +kernel
theorem dX11_startOf_18 : decode cX11_startOf 18 = .ok (.getfield 175, 3) := by decide +kernel
theorem dX11_startOf_21 : decode cX11_startOf 21 = .ok (.invokestatic 121, 3) := by decide +kernel
theorem dX11_startOf_24 : decode cX11_startOf 24 = .ok (.iaload, 1) := by decide +kernel
theorem dX11_startOf_25 : decode cX11_startOf 25 = .ok (.ireturn, 1) := by decide +kernel
theorem dX11_capacityOf_0 : decode cX11_capacityOf 0 = .ok (.aload_n 0, 1) := by decide +kernel
theorem dX11_capacityOf_1 : decode cX11_capacityOf 1 = .ok (.getfield 10, 3) := by decide +kernel
theorem dX11_capacityOf_4 : decode cX11_capacityOf 4 = .ok (.getfield 171, 3) := by decide +kernel
theorem dX11_capacityOf_7 : decode cX11_capacityOf 7 = .ok (.getfield 187, 3) := by decide +kernel
theorem dX11_capacityOf_10 : decode cX11_capacityOf 10 = .ok (.iload_n 1, 1) := by decide +kernel
theorem dX11_capacityOf_11 : decode cX11_capacityOf 11 = .ok (.aload_n 0, 1) := by decide +kernel
theorem dX11_capacityOf_12 : decode cX11_capacityOf 12 = .ok (.getfield 10, 3) := by decide +kernel
theorem dX11_capacityOf_15 : decode cX11_capacityOf 15 = .ok (.getfield 171, 3) := by decide +kernel
theorem dX11_capacityOf_18 : decode cX11_capacityOf 18 = .ok (.getfield 175, 3) := by decide +kernel
theorem dX11_capacityOf_21 : decode cX11_capacityOf 21 = .ok (.invokestatic 121, 3) := by decide +kernel
theorem dX11_capacityOf_24 : decode cX11_capacityOf 24 = .ok (.iaload, 1) := by decide +kernel
theorem dX11_capacityOf_25 : decode cX11_capacityOf 25 = .ok (.ireturn, 1) := by decide +kernel
theorem dX11_borne_0 : decode cX11_borne 0 = .ok (.aload_n 0, 1) := by decide +kernel
theorem dX11_borne_1 : decode cX11_borne 1 = .ok (.getfield 10, 3) := by decide +kernel
theorem dX11_borne_4 : decode cX11_borne 4 = .ok (.getfield 171, 3) := by decide +kernel
theorem dX11_borne_7 : decode cX11_borne 7 = .ok (.iload_n 1, 1) := by decide +kernel
theorem dX11_borne_8 : decode cX11_borne 8 = .ok (.iconst 1, 1) := by decide +kernel
theorem dX11_borne_9 : decode cX11_borne 9 = .ok (.bipush 30, 2) := by decide +kernel
theorem dX11_borne_11 : decode cX11_borne 11 = .ok (.invokestatic 190, 3) := by decide +kernel
theorem dX11_borne_14 : decode cX11_borne 14 = .ok (.invokevirtual 193, 3) := by decide +kernel
theorem dX11_borne_17 : decode cX11_borne 17 = .ok (.ireturn, 1) := by decide +kernel
theorem dX11_borneByCoins_0 : decode cX11_borneByCoins 0 = .ok (.aload_n 0, 1) := by decide +kernel
theorem dX11_borneByCoins_1 : decode cX11_borneByCoins 1 = .ok (.getfield 10, 3) := by decide +kernel
theorem dX11_borneByCoins_4 : decode cX11_borneByCoins 4 = .ok (.getfield 171, 3) := by decide +kernel
theorem dX11_borneByCoins_7 : decode cX11_borneByCoins 7 = .ok (.iload_n 1, 1) := by decide +kernel
theorem dX11_borneByCoins_8 : decode cX11_borneByCoins 8 = .ok (.iconst 1, 1) := by decide +kernel
theorem dX11_borneByCoins_9 : decode cX11_borneByCoins 9 = .ok (.bipush 30, 2) := by decide +kernel
theorem dX11_borneByCoins_11 : decode cX11_borneByCoins 11 = .ok (.invokestatic 190, 3) := by decide +kernel
theorem dX11_borneByCoins_14 : decode cX11_borneByCoins 14 = .ok (.invokevirtual 196, 3) := by decide +kernel
theorem dX11_borneByCoins_17 : decode cX11_borneByCoins 17 = .ok (.ireturn, 1) := by decide +kernel
theorem dX11_outcomes_0 : decode cX11_outcomes 0 = .ok (.aload_n 0, 1) := by decide +kernel
theorem dX11_outcomes_1 : decode cX11_outcomes 1 = .ok (.getfield 10, 3) := by decide +kernel
theorem dX11_outcomes_4 : decode cX11_outcomes 4 = .ok (.getfield 108, 3) := by decide +kernel
theorem dX11_outcomes_7 : decode cX11_outcomes 7 = .ok (.aload_n 0, 1) := by decide +kernel
theorem dX11_outcomes_8 : decode cX11_outcomes 8 = .ok (.getfield 10, 3) := by decide +kernel
theorem dX11_outcomes_11 : decode cX11_outcomes 11 = .ok (.getfield 102, 3) := by decide +kernel
theorem dX11_outcomes_14 : decode cX11_outcomes 14 = .ok (.invokevirtual 199, 3) := by decide +kernel
theorem dX11_outcomes_17 : decode cX11_outcomes 17 = .ok (.lreturn, 1) := by decide +kernel
theorem dX11_outcomesWithin_0 : decode cX11_outcomesWithin 0 = .ok (.aload_n 0, 1) := by decide +kernel
theorem dX11_outcomesWithin_1 : decode cX11_outcomesWithin 1 = .ok (.getfield 10, 3) := by decide +kernel
theorem dX11_outcomesWithin_4 : decode cX11_outcomesWithin 4 = .ok (.getfield 108, 3) := by decide +kernel
theorem dX11_outcomesWithin_7 : decode cX11_outcomesWithin 7 = .ok (.iload_n 1, 1) := by decide +kernel
theorem dX11_outcomesWithin_8 : decode cX11_outcomesWithin 8 = .ok (.iconst 0, 1) := by decide +kernel
theorem dX11_outcomesWithin_9 : decode cX11_outcomesWithin 9 = .ok (.ldc 203, 2) := by decide +kernel
theorem dX11_outcomesWithin_11 : decode cX11_outcomesWithin 11 = .ok (.invokestatic 190, 3) := by decide +kernel
theorem dX11_outcomesWithin_14 : decode cX11_outcomesWithin 14 = .ok (.aload_n 0, 1) := by decide +kernel
theorem dX11_outcomesWithin_15 : decode cX11_outcomesWithin 15 = .ok (.getfield 10, 3) := by decide +kernel
theorem dX11_outcomesWithin_18 : decode cX11_outcomesWithin 18 = .ok (.getfield 102, 3) := by decide +kernel
theorem dX11_outcomesWithin_21 : decode cX11_outcomesWithin 21 = .ok (.invokevirtual 204, 3) := by decide +kernel
theorem dX11_outcomesWithin_24 : decode cX11_outcomesWithin 24 = .ok (.lreturn, 1) := by decide +kernel
theorem dX11_outcomesWithinBySets_0 : decode cX11_outcomesWithinBySets 0 = .ok (.aload_n 0, 1) := by decide +kernel
theorem dX11_outcomesWithinBySets_1 : decode cX11_outcomesWithinBySets 1 = .ok (.getfield 10, 3) := by decide +kernel
theorem dX11_outcomesWithinBySets_4 : decode cX11_outcomesWithinBySets 4 = .ok (.getfield 108, 3) := by decide +kernel
theorem dX11_outcomesWithinBySets_7 : decode cX11_outcomesWithinBySets 7 = .ok (.iload_n 1, 1) := by decide +kernel
theorem dX11_outcomesWithinBySets_8 : decode cX11_outcomesWithinBySets 8 = .ok (.iconst 0, 1) := by decide +kernel
theorem dX11_outcomesWithinBySets_9 : decode cX11_outcomesWithinBySets 9 = .ok (.ldc 203, 2) := by decide +kernel
theorem dX11_outcomesWithinBySets_11 : decode cX11_outcomesWithinBySets 11 = .ok (.invokestatic 190, 3) := by decide +kernel
theorem dX11_outcomesWithinBySets_14 : decode cX11_outcomesWithinBySets 14 = .ok (.aload_n 0, 1) := by decide +kernel
theorem dX11_outcomesWithinBySets_15 : decode cX11_outcomesWithinBySets 15 = .ok (.getfield 10, 3) := by decide +kernel
theorem dX11_outcomesWithinBySets_18 : decode cX11_outcomesWithinBySets 18 = .ok (.getfield 102, 3) := by decide +kernel
theorem dX11_outcomesWithinBySets_21 : decode cX11_outcomesWithinBySets 21 = .ok (.invokevirtual 208, 3) := by decide +kernel
theorem dX11_outcomesWithinBySets_24 : decode cX11_outcomesWithinBySets 24 = .ok (.lreturn, 1) := by decide +kernel
theorem dX11_greatestLoss_0 : decode cX11_greatestLoss 0 = .ok (.aload_n 0, 1) := by decide +kernel
theorem dX11_greatestLoss_1 : decode cX11_greatestLoss 1 = .ok (.getfield 10, 3) := by decide +kernel
theorem dX11_greatestLoss_4 : decode cX11_greatestLoss 4 = .ok (.getfield 108, 3) := by decide +kernel
theorem dX11_greatestLoss_7 : decode cX11_greatestLoss 7 = .ok (.aload_n 0, 1) := by decide +kernel
theorem dX11_greatestLoss_8 : decode cX11_greatestLoss 8 = .ok (.getfield 10, 3) := by decide +kernel
theorem dX11_greatestLoss_11 : decode cX11_greatestLoss 11 = .ok (.getfield 102, 3) := by decide +kernel
theorem dX11_greatestLoss_14 : decode cX11_greatestLoss 14 = .ok (.invokevirtual 211, 3) := by decide +kernel
theorem dX11_greatestLoss_17 : decode cX11_greatestLoss 17 = .ok (.ireturn, 1) := by decide +kernel
theorem dX11_paidIn_0 : decode cX11_paidIn 0 = .ok (.iload_n 1, 1) := by decide +kernel
theorem dX11_paidIn_1 : decode cX11_paidIn 1 = .ok (.iconst 0, 1) := by decide +kernel
theorem dX11_paidIn_2 : decode cX11_paidIn 2 = .ok (.iconst 5, 1) := by decide +kernel
theorem dX11_paidIn_3 : decode cX11_paidIn 3 = .ok (.invokestatic 190, 3) := by decide +kernel
theorem dX11_paidIn_6 : decode cX11_paidIn 6 = .ok (.istore_n 3, 1) := by decide +kernel
theorem dX11_paidIn_7 : decode cX11_paidIn 7 = .ok (.aload_n 0, 1) := by decide +kernel
theorem dX11_paidIn_8 : decode cX11_paidIn 8 = .ok (.getfield 10, 3) := by decide +kernel
theorem dX11_paidIn_11 : decode cX11_paidIn 11 = .ok (.getfield 214, 3) := by decide +kernel
theorem dX11_paidIn_14 : decode cX11_paidIn 14 = .ok (.getfield 218, 3) := by decide +kernel
theorem dX11_paidIn_17 : decode cX11_paidIn 17 = .ok (.iload_n 3, 1) := by decide +kernel
theorem dX11_paidIn_18 : decode cX11_paidIn 18 = .ok (.aaload, 1) := by decide +kernel
theorem dX11_paidIn_19 : decode cX11_paidIn 19 = .ok (.iload_n 2, 1) := by decide +kernel
theorem dX11_paidIn_20 : decode cX11_paidIn 20 = .ok (.iconst 0, 1) := by decide +kernel
theorem dX11_paidIn_21 : decode cX11_paidIn 21 = .ok (.iconst 5, 1) := by decide +kernel
theorem dX11_paidIn_22 : decode cX11_paidIn 22 = .ok (.invokestatic 190, 3) := by decide +kernel
theorem dX11_paidIn_25 : decode cX11_paidIn 25 = .ok (.iaload, 1) := by decide +kernel
theorem dX11_paidIn_26 : decode cX11_paidIn 26 = .ok (.ireturn, 1) := by decide +kernel
theorem dX11_lastPeriod_0 : decode cX11_lastPeriod 0 = .ok (.aload_n 0, 1) := by decide +kernel
theorem dX11_lastPeriod_1 : decode cX11_lastPeriod 1 = .ok (.getfield 10, 3) := by decide +kernel
theorem dX11_lastPeriod_4 : decode cX11_lastPeriod 4 = .ok (.invokevirtual 223, 3) := by decide +kernel
theorem dX11_lastPeriod_7 : decode cX11_lastPeriod 7 = .ok (.ireturn, 1) := by decide +kernel
theorem dX11_projected_0 : decode cX11_projected 0 = .ok (.aload_n 0, 1) := by decide +kernel
theorem dX11_projected_1 : decode cX11_projected 1 = .ok (.getfield 10, 3) := by decide +kernel
theorem dX11_projected_4 : decode cX11_projected 4 = .ok (.invokevirtual 223, 3) := by decide +kernel
theorem dX11_projected_7 : decode cX11_projected 7 = .ok (.istore_n 2, 1) := by decide +kernel
theorem dX11_projected_8 : decode cX11_projected 8 = .ok (.aload_n 0, 1) := by decide +kernel
theorem dX11_projected_9 : decode cX11_projected 9 = .ok (.getfield 10, 3) := by decide +kernel
theorem dX11_projected_12 : decode cX11_projected 12 = .ok (.getfield 214, 3) := by decide +kernel
theorem dX11_projected_15 : decode cX11_projected 15 = .ok (.iload_n 1, 1) := by decide +kernel
theorem dX11_projected_16 : decode cX11_projected 16 = .ok (.iconst 0, 1) := by decide +kernel
theorem dX11_projected_17 : decode cX11_projected 17 = .ok (.iload_n 2, 1) := by decide +kernel
theorem dX11_projected_18 : decode cX11_projected 18 = .ok (.invokestatic 190, 3) := by decide +kernel
theorem dX11_projected_21 : decode cX11_projected 21 = .ok (.iload_n 2, 1) := by decide +kernel
theorem dX11_projected_22 : decode cX11_projected 22 = .ok (.invokevirtual 227, 3) := by decide +kernel
theorem dX11_projected_25 : decode cX11_projected 25 = .ok (.ireturn, 1) := by decide +kernel
theorem dX11_projectedByRecursion_0 : decode cX11_projectedByRecursion 0 = .ok (.aload_n 0, 1) := by decide +kernel
theorem dX11_projectedByRecursion_1 : decode cX11_projectedByRecursion 1 = .ok (.getfield 10, 3) := by decide +kernel
theorem dX11_projectedByRecursion_4 : decode cX11_projectedByRecursion 4 = .ok (.invokevirtual 223, 3) := by decide +kernel
theorem dX11_projectedByRecursion_7 : decode cX11_projectedByRecursion 7 = .ok (.istore_n 2, 1) := by decide +kernel
theorem dX11_projectedByRecursion_8 : decode cX11_projectedByRecursion 8 = .ok (.aload_n 0, 1) := by decide +kernel
theorem dX11_projectedByRecursion_9 : decode cX11_projectedByRecursion 9 = .ok (.getfield 10, 3) := by decide +kernel
theorem dX11_projectedByRecursion_12 : decode cX11_projectedByRecursion 12 = .ok (.getfield 214, 3) := by decide +kernel
theorem dX11_projectedByRecursion_15 : decode cX11_projectedByRecursion 15 = .ok (.iload_n 1, 1) := by decide +kernel
theorem dX11_projectedByRecursion_16 : decode cX11_projectedByRecursion 16 = .ok (.iconst 0, 1) := by decide +kernel
theorem dX11_projectedByRecursion_17 : decode cX11_projectedByRecursion 17 = .ok (.iload_n 2, 1) := by decide +kernel
theorem dX11_projectedByRecursion_18 : decode cX11_projectedByRecursion 18 = .ok (.invokestatic 190, 3) := by decide +kernel
theorem dX11_projectedByRecursion_21 : decode cX11_projectedByRecursion 21 = .ok (.iload_n 2, 1) := by decide +kernel
theorem dX11_projectedByRecursion_22 : decode cX11_projectedByRecursion 22 = .ok (.invokevirtual 230, 3) := by decide +kernel
theorem dX11_projectedByRecursion_25 : decode cX11_projectedByRecursion 25 = .ok (.ireturn, 1) := by decide +kernel
theorem dX11_reserve_0 : decode cX11_reserve 0 = .ok (.aload_n 0, 1) := by decide +kernel
theorem dX11_reserve_1 : decode cX11_reserve 1 = .ok (.getfield 10, 3) := by decide +kernel
theorem dX11_reserve_4 : decode cX11_reserve 4 = .ok (.getfield 214, 3) := by decide +kernel
theorem dX11_reserve_7 : decode cX11_reserve 7 = .ok (.aload_n 0, 1) := by decide +kernel
theorem dX11_reserve_8 : decode cX11_reserve 8 = .ok (.getfield 10, 3) := by decide +kernel
theorem dX11_reserve_11 : decode cX11_reserve 11 = .ok (.invokevirtual 223, 3) := by decide +kernel
theorem dX11_reserve_14 : decode cX11_reserve 14 = .ok (.invokevirtual 233, 3) := by decide +kernel
theorem dX11_reserve_17 : decode cX11_reserve 17 = .ok (.ireturn, 1) := by decide +kernel
theorem dX11_offerCount_0 : decode cX11_offerCount 0 = .ok (.aload_n 0, 1) := by decide +kernel
theorem dX11_offerCount_1 : decode cX11_offerCount 1 = .ok (.getfield 10, 3) := by decide +kernel
theorem dX11_offerCount_4 : decode cX11_offerCount 4 = .ok (.getfield 87, 3) := by decide +kernel
theorem dX11_offerCount_7 : decode cX11_offerCount 7 = .ok (.getfield 236, 3) := by decide +kernel
theorem dX11_offerCount_10 : decode cX11_offerCount 10 = .ok (.ireturn, 1) := by decide +kernel
theorem dX11_cheapestCover_0 : decode cX11_cheapestCover 0 = .ok (.iload_n 2, 1) := by decide +kernel
theorem dX11_cheapestCover_1 : decode cX11_cheapestCover 1 = .ok (.iconst 0, 1) := by decide +kernel
theorem dX11_cheapestCover_2 : decode cX11_cheapestCover 2 = .ok (.bipush 99, 2) := by decide +kernel
theorem dX11_cheapestCover_4 : decode cX11_cheapestCover 4 = .ok (.invokestatic 190, 3) := by decide +kernel
theorem dX11_cheapestCover_7 : decode cX11_cheapestCover 7 = .ok (.istore_n 3, 1) := by decide +kernel
theorem dX11_cheapestCover_8 : decode cX11_cheapestCover 8 = .ok (.aload_n 0, 1) := by decide +kernel
theorem dX11_cheapestCover_9 : decode cX11_cheapestCover 9 = .ok (.getfield 10, 3) := by decide +kernel
theorem dX11_cheapestCover_12 : decode cX11_cheapestCover 12 = .ok (.getfield 87, 3) := by decide +kernel
theorem dX11_cheapestCover_15 : decode cX11_cheapestCover 15 = .ok (.iload_n 1, 1) := by decide +kernel
theorem dX11_cheapestCover_16 : decode cX11_cheapestCover 16 = .ok (.iconst 0, 1) := by decide +kernel
theorem dX11_cheapestCover_17 : decode cX11_cheapestCover 17 = .ok (.iload_n 3, 1) := by decide +kernel
theorem dX11_cheapestCover_18 : decode cX11_cheapestCover 18 = .ok (.invokestatic 190, 3) := by decide +kernel
theorem dX11_cheapestCover_21 : decode cX11_cheapestCover 21 = .ok (.iload_n 3, 1) := by decide +kernel
theorem dX11_cheapestCover_22 : decode cX11_cheapestCover 22 = .ok (.invokevirtual 237, 3) := by decide +kernel
theorem dX11_cheapestCover_25 : decode cX11_cheapestCover 25 = .ok (.invokestatic 240, 3) := by decide +kernel
theorem dX11_cheapestCover_28 : decode cX11_cheapestCover 28 = .ok (.ireturn, 1) := by decide +kernel
theorem dX11_cheapestCoverBySets_0 : decode cX11_cheapestCoverBySets 0 = .ok (.iload_n 2, 1) := by decide +kernel
theorem dX11_cheapestCoverBySets_1 : decode cX11_cheapestCoverBySets 1 = .ok (.iconst 0, 1) := by decide +kernel
theorem dX11_cheapestCoverBySets_2 : decode cX11_cheapestCoverBySets 2 = .ok (.bipush 99, 2) := by decide +kernel
theorem dX11_cheapestCoverBySets_4 : decode cX11_cheapestCoverBySets 4 = .ok (.invokestatic 190, 3) := by decide +kernel
theorem dX11_cheapestCoverBySets_7 : decode cX11_cheapestCoverBySets 7 = .ok (.istore_n 3, 1) := by decide +kernel
theorem dX11_cheapestCoverBySets_8 : decode cX11_cheapestCoverBySets 8 = .ok (.aload_n 0, 1) := by decide +kernel
theorem dX11_cheapestCoverBySets_9 : decode cX11_cheapestCoverBySets 9 = .ok (.getfield 10, 3) := by decide +kernel
theorem dX11_cheapestCoverBySets_12 : decode cX11_cheapestCoverBySets 12 = .ok (.getfield 87, 3) := by decide +kernel
theorem dX11_cheapestCoverBySets_15 : decode cX11_cheapestCoverBySets 15 = .ok (.iload_n 1, 1) := by decide +kernel
theorem dX11_cheapestCoverBySets_16 : decode cX11_cheapestCoverBySets 16 = .ok (.iconst 0, 1) := by decide +kernel
theorem dX11_cheapestCoverBySets_17 : decode cX11_cheapestCoverBySets 17 = .ok (.iload_n 3, 1) := by decide +kernel
theorem dX11_cheapestCoverBySets_18 : decode cX11_cheapestCoverBySets 18 = .ok (.invokestatic 190, 3) := by decide +kernel
theorem dX11_cheapestCoverBySets_21 : decode cX11_cheapestCoverBySets 21 = .ok (.iload_n 3, 1) := by decide +kernel
theorem dX11_cheapestCoverBySets_22 : decode cX11_cheapestCoverBySets 22 = .ok (.invokevirtual 243, 3) := by decide +kernel
theorem dX11_cheapestCoverBySets_25 : decode cX11_cheapestCoverBySets 25 = .ok (.invokestatic 240, 3) := by decide +kernel
theorem dX11_cheapestCoverBySets_28 : decode cX11_cheapestCoverBySets 28 = .ok (.ireturn, 1) := by decide +kernel
theorem dX11_policyByLoad_0 : decode cX11_policyByLoad 0 = .ok (.aload_n 0, 1) := by decide +kernel
theorem dX11_policyByLoad_1 : decode cX11_policyByLoad 1 = .ok (.getfield 10, 3) := by decide +kernel
theorem dX11_policyByLoad_4 : decode cX11_policyByLoad 4 = .ok (.getfield 108, 3) := by decide +kernel
theorem dX11_policyByLoad_7 : decode cX11_policyByLoad 7 = .ok (.iload_n 1, 1) := by decide +kernel
theorem dX11_policyByLoad_8 : decode cX11_policyByLoad 8 = .ok (.invokevirtual 246, 3) := by decide +kernel
theorem dX11_policyByLoad_11 : decode cX11_policyByLoad 11 = .ok (.ireturn, 1) := by decide +kernel
theorem dX11_claimByUnpaid_0 : decode cX11_claimByUnpaid 0 = .ok (.aload_n 0, 1) := by decide +kernel
theorem dX11_claimByUnpaid_1 : decode cX11_claimByUnpaid 1 = .ok (.getfield 10, 3) := by decide +kernel
theorem dX11_claimByUnpaid_4 : decode cX11_claimByUnpaid 4 = .ok (.getfield 146, 3) := by decide +kernel
theorem dX11_claimByUnpaid_7 : decode cX11_claimByUnpaid 7 = .ok (.iload_n 1, 1) := by decide +kernel
theorem dX11_claimByUnpaid_8 : decode cX11_claimByUnpaid 8 = .ok (.invokevirtual 249, 3) := by decide +kernel
theorem dX11_claimByUnpaid_11 : decode cX11_claimByUnpaid 11 = .ok (.ireturn, 1) := by decide +kernel
theorem dX11_meanSum_0 : decode cX11_meanSum 0 = .ok (.aload_n 0, 1) := by decide +kernel
theorem dX11_meanSum_1 : decode cX11_meanSum 1 = .ok (.getfield 10, 3) := by decide +kernel
theorem dX11_meanSum_4 : decode cX11_meanSum 4 = .ok (.getfield 108, 3) := by decide +kernel
theorem dX11_meanSum_7 : decode cX11_meanSum 7 = .ok (.getfield 112, 3) := by decide +kernel
theorem dX11_meanSum_10 : decode cX11_meanSum 10 = .ok (.ifCond .ne 13, 3) := by decide +kernel
theorem dX11_meanSum_13 : decode cX11_meanSum 13 = .ok (.new 250, 3) := by decide +kernel
theorem dX11_meanSum_16 : decode cX11_meanSum 16 = .ok (.dup, 1) := by decide +kernel
theorem dX11_meanSum_17 : decode cX11_meanSum 17 = .ok (.ldc 252, 2) := by decide +kernel
theorem dX11_meanSum_19 : decode cX11_meanSum 19 = .ok (.invokespecial 254, 3) := by decide +kernel
theorem dX11_meanSum_22 : decode cX11_meanSum 22 = .ok (.athrow, 1) := by decide +kernel
theorem dX11_meanSum_23 : decode cX11_meanSum 23 = .ok (.aload_n 0, 1) := by decide +kernel
theorem dX11_meanSum_24 : decode cX11_meanSum 24 = .ok (.getfield 10, 3) := by decide +kernel
theorem dX11_meanSum_27 : decode cX11_meanSum 27 = .ok (.getfield 108, 3) := by decide +kernel
theorem dX11_meanSum_30 : decode cX11_meanSum 30 = .ok (.getfield 124, 3) := by decide +kernel
theorem dX11_meanSum_33 : decode cX11_meanSum 33 = .ok (.aload_n 0, 1) := by decide +kernel
theorem dX11_meanSum_34 : decode cX11_meanSum 34 = .ok (.getfield 10, 3) := by decide +kernel
theorem dX11_meanSum_37 : decode cX11_meanSum 37 = .ok (.getfield 108, 3) := by decide +kernel
theorem dX11_meanSum_40 : decode cX11_meanSum 40 = .ok (.getfield 112, 3) := by decide +kernel
theorem dX11_meanSum_43 : decode cX11_meanSum 43 = .ok (.invokestatic 257, 3) := by decide +kernel
theorem dX11_meanSum_46 : decode cX11_meanSum 46 = .ok (.i2d, 1) := by decide +kernel
theorem dX11_meanSum_47 : decode cX11_meanSum 47 = .ok (.aload_n 0, 1) := by decide +kernel
theorem dX11_meanSum_48 : decode cX11_meanSum 48 = .ok (.getfield 10, 3) := by decide +kernel
theorem dX11_meanSum_51 : decode cX11_meanSum 51 = .ok (.getfield 108, 3) := by decide +kernel
theorem dX11_meanSum_54 : decode cX11_meanSum 54 = .ok (.getfield 112, 3) := by decide +kernel
theorem dX11_meanSum_57 : decode cX11_meanSum 57 = .ok (.i2d, 1) := by decide +kernel
theorem dX11_meanSum_58 : decode cX11_meanSum 58 = .ok (.ddiv, 1) := by decide +kernel
theorem dX11_meanSum_59 : decode cX11_meanSum 59 = .ok (.dreturn, 1) := by decide +kernel
theorem dX11_paidShare_0 : decode cX11_paidShare 0 = .ok (.aload_n 0, 1) := by decide +kernel
theorem dX11_paidShare_1 : decode cX11_paidShare 1 = .ok (.getfield 10, 3) := by decide +kernel
theorem dX11_paidShare_4 : decode cX11_paidShare 4 = .ok (.getfield 146, 3) := by decide +kernel
theorem dX11_paidShare_7 : decode cX11_paidShare 7 = .ok (.getfield 161, 3) := by decide +kernel
theorem dX11_paidShare_10 : decode cX11_paidShare 10 = .ok (.aload_n 0, 1) := by decide +kernel
theorem dX11_paidShare_11 : decode cX11_paidShare 11 = .ok (.getfield 10, 3) := by decide +kernel
theorem dX11_paidShare_14 : decode cX11_paidShare 14 = .ok (.getfield 146, 3) := by decide +kernel
theorem dX11_paidShare_17 : decode cX11_paidShare 17 = .ok (.getfield 150, 3) := by decide +kernel
theorem dX11_paidShare_20 : decode cX11_paidShare 20 = .ok (.invokestatic 257, 3) := by decide +kernel
theorem dX11_paidShare_23 : decode cX11_paidShare 23 = .ok (.istore_n 1, 1) := by decide +kernel
theorem dX11_paidShare_24 : decode cX11_paidShare 24 = .ok (.iload_n 1, 1) := by decide +kernel
theorem dX11_paidShare_25 : decode cX11_paidShare 25 = .ok (.ifCond .ne 14, 3) := by decide +kernel
theorem dX11_paidShare_28 : decode cX11_paidShare 28 = .ok (.new 250, 3) := by decide +kernel
theorem dX11_paidShare_31 : decode cX11_paidShare 31 = .ok (.dup, 1) := by decide +kernel
theorem dX11_paidShare_32 : decode cX11_paidShare 32 = .ok (.ldc_w 261, 3) := by decide +kernel
theorem dX11_paidShare_35 : decode cX11_paidShare 35 = .ok (.invokespecial 254, 3) := by decide +kernel
theorem dX11_paidShare_38 : decode cX11_paidShare 38 = .ok (.athrow, 1) := by decide +kernel
theorem dX11_paidShare_39 : decode cX11_paidShare 39 = .ok (.aload_n 0, 1) := by decide +kernel
theorem dX11_paidShare_40 : decode cX11_paidShare 40 = .ok (.getfield 10, 3) := by decide +kernel
theorem dX11_paidShare_43 : decode cX11_paidShare 43 = .ok (.getfield 146, 3) := by decide +kernel
theorem dX11_paidShare_46 : decode cX11_paidShare 46 = .ok (.getfield 164, 3) := by decide +kernel
theorem dX11_paidShare_49 : decode cX11_paidShare 49 = .ok (.aload_n 0, 1) := by decide +kernel
theorem dX11_paidShare_50 : decode cX11_paidShare 50 = .ok (.getfield 10, 3) := by decide +kernel
theorem dX11_paidShare_53 : decode cX11_paidShare 53 = .ok (.getfield 146, 3) := by decide +kernel
theorem dX11_paidShare_56 : decode cX11_paidShare 56 = .ok (.getfield 150, 3) := by decide +kernel
theorem dX11_paidShare_59 : decode cX11_paidShare 59 = .ok (.invokestatic 257, 3) := by decide +kernel
theorem dX11_paidShare_62 : decode cX11_paidShare 62 = .ok (.i2f, 1) := by decide +kernel
theorem dX11_paidShare_63 : decode cX11_paidShare 63 = .ok (.iload_n 1, 1) := by decide +kernel
theorem dX11_paidShare_64 : decode cX11_paidShare 64 = .ok (.i2f, 1) := by decide +kernel
theorem dX11_paidShare_65 : decode cX11_paidShare 65 = .ok (.fdiv, 1) := by decide +kernel
theorem dX11_paidShare_66 : decode cX11_paidShare 66 = .ok (.freturn, 1) := by decide +kernel
theorem dX11_isConsistent_0 : decode cX11_isConsistent 0 = .ok (.aload_n 0, 1) := by decide +kernel
theorem dX11_isConsistent_1 : decode cX11_isConsistent 1 = .ok (.getfield 10, 3) := by decide +kernel
theorem dX11_isConsistent_4 : decode cX11_isConsistent 4 = .ok (.invokevirtual 263, 3) := by decide +kernel
theorem dX11_isConsistent_7 : decode cX11_isConsistent 7 = .ok (.ifCond .eq 57, 3) := by decide +kernel
theorem dX11_isConsistent_10 : decode cX11_isConsistent 10 = .ok (.aload_n 0, 1) := by decide +kernel
theorem dX11_isConsistent_11 : decode cX11_isConsistent 11 = .ok (.getfield 10, 3) := by decide +kernel
theorem dX11_isConsistent_14 : decode cX11_isConsistent 14 = .ok (.invokevirtual 267, 3) := by decide +kernel
theorem dX11_isConsistent_17 : decode cX11_isConsistent 17 = .ok (.ifCond .eq 47, 3) := by decide +kernel
theorem dX11_isConsistent_20 : decode cX11_isConsistent 20 = .ok (.aload_n 0, 1) := by decide +kernel
theorem dX11_isConsistent_21 : decode cX11_isConsistent 21 = .ok (.getfield 10, 3) := by decide +kernel
theorem dX11_isConsistent_24 : decode cX11_isConsistent 24 = .ok (.invokevirtual 270, 3) := by decide +kernel
theorem dX11_isConsistent_27 : decode cX11_isConsistent 27 = .ok (.ifCond .eq 37, 3) := by decide +kernel
theorem dX11_isConsistent_30 : decode cX11_isConsistent 30 = .ok (.aload_n 0, 1) := by decide +kernel
theorem dX11_isConsistent_31 : decode cX11_isConsistent 31 = .ok (.getfield 10, 3) := by decide +kernel
theorem dX11_isConsistent_34 : decode cX11_isConsistent 34 = .ok (.invokevirtual 273, 3) := by decide +kernel
theorem dX11_isConsistent_37 : decode cX11_isConsistent 37 = .ok (.ifCond .eq 27, 3) := by decide +kernel
theorem dX11_isConsistent_40 : decode cX11_isConsistent 40 = .ok (.aload_n 0, 1) := by decide +kernel
theorem dX11_isConsistent_41 : decode cX11_isConsistent 41 = .ok (.getfield 10, 3) := by decide +kernel
theorem dX11_isConsistent_44 : decode cX11_isConsistent 44 = .ok (.invokevirtual 276, 3) := by decide +kernel
theorem dX11_isConsistent_47 : decode cX11_isConsistent 47 = .ok (.ifCond .eq 17, 3) := by decide +kernel
theorem dX11_isConsistent_50 : decode cX11_isConsistent 50 = .ok (.aload_n 0, 1) := by decide +kernel
theorem dX11_isConsistent_51 : decode cX11_isConsistent 51 = .ok (.getfield 10, 3) := by decide +kernel
theorem dX11_isConsistent_54 : decode cX11_isConsistent 54 = .ok (.invokevirtual 279, 3) := by decide +kernel
theorem dX11_isConsistent_57 : decode cX11_isConsistent 57 = .ok (.ifCond .eq 7, 3) := by decide +kernel
theorem dX11_isConsistent_60 : decode cX11_isConsistent 60 = .ok (.iconst 1, 1) := by decide +kernel
theorem dX11_isConsistent_61 : decode cX11_isConsistent 61 = .ok (.goto 4, 3) := by decide +kernel
theorem dX11_isConsistent_64 : decode cX11_isConsistent 64 = .ok (.iconst 0, 1) := by decide +kernel
theorem dX11_isConsistent_65 : decode cX11_isConsistent 65 = .ok (.ireturn, 1) := by decide +kernel
theorem dX11_writePolicy_0 : decode cX11_writePolicy 0 = .ok (.aload_n 0, 1) := by decide +kernel
theorem dX11_writePolicy_1 : decode cX11_writePolicy 1 = .ok (.getfield 10, 3) := by decide +kernel
theorem dX11_writePolicy_4 : decode cX11_writePolicy 4 = .ok (.getfield 108, 3) := by decide +kernel
theorem dX11_writePolicy_7 : decode cX11_writePolicy 7 = .ok (.iload_n 1, 1) := by decide +kernel
theorem dX11_writePolicy_8 : decode cX11_writePolicy 8 = .ok (.invokevirtual 127, 3) := by decide +kernel
theorem dX11_writePolicy_11 : decode cX11_writePolicy 11 = .ok (.istore_n 2, 1) := by decide +kernel
theorem dX11_writePolicy_12 : decode cX11_writePolicy 12 = .ok (.aload_n 0, 1) := by decide +kernel
theorem dX11_writePolicy_13 : decode cX11_writePolicy 13 = .ok (.getfield 36, 3) := by decide +kernel
theorem dX11_writePolicy_16 : decode cX11_writePolicy 16 = .ok (.iconst 0, 1) := by decide +kernel
theorem dX11_writePolicy_17 : decode cX11_writePolicy 17 = .ok (.invokevirtual 282, 3) := by decide +kernel
theorem dX11_writePolicy_20 : decode cX11_writePolicy 20 = .ok (.aload_n 0, 1) := by decide +kernel
theorem dX11_writePolicy_21 : decode cX11_writePolicy 21 = .ok (.getfield 36, 3) := by decide +kernel
theorem dX11_writePolicy_24 : decode cX11_writePolicy 24 = .ok (.bipush 35, 2) := by decide +kernel
theorem dX11_writePolicy_26 : decode cX11_writePolicy 26 = .ok (.invokevirtual 286, 3) := by decide +kernel
theorem dX11_writePolicy_29 : decode cX11_writePolicy 29 = .ok (.iload_n 1, 1) := by decide +kernel
theorem dX11_writePolicy_30 : decode cX11_writePolicy 30 = .ok (.invokevirtual 290, 3) := by decide +kernel
theorem dX11_writePolicy_33 : decode cX11_writePolicy 33 = .ok (.pop, 1) := by decide +kernel
theorem dX11_writePolicy_34 : decode cX11_writePolicy 34 = .ok (.aload_n 0, 1) := by decide +kernel
theorem dX11_writePolicy_35 : decode cX11_writePolicy 35 = .ok (.getfield 36, 3) := by decide +kernel
theorem dX11_writePolicy_38 : decode cX11_writePolicy 38 = .ok (.bipush 58, 2) := by decide +kernel
theorem dX11_writePolicy_40 : decode cX11_writePolicy 40 = .ok (.invokevirtual 286, 3) := by decide +kernel
theorem dX11_writePolicy_43 : decode cX11_writePolicy 43 = .ok (.aload_n 0, 1) := by decide +kernel
theorem dX11_writePolicy_44 : decode cX11_writePolicy 44 = .ok (.getfield 10, 3) := by decide +kernel
theorem dX11_writePolicy_47 : decode cX11_writePolicy 47 = .ok (.getfield 108, 3) := by decide +kernel
theorem dX11_writePolicy_50 : decode cX11_writePolicy 50 = .ok (.getfield 124, 3) := by decide +kernel
theorem dX11_writePolicy_53 : decode cX11_writePolicy 53 = .ok (.iload_n 2, 1) := by decide +kernel
theorem dX11_writePolicy_54 : decode cX11_writePolicy 54 = .ok (.iaload, 1) := by decide +kernel
theorem dX11_writePolicy_55 : decode cX11_writePolicy 55 = .ok (.invokevirtual 290, 3) := by decide +kernel
theorem dX11_writePolicy_58 : decode cX11_writePolicy 58 = .ok (.pop, 1) := by decide +kernel
theorem dX11_writePolicy_59 : decode cX11_writePolicy 59 = .ok (.aload_n 0, 1) := by decide +kernel
theorem dX11_writePolicy_60 : decode cX11_writePolicy 60 = .ok (.getfield 36, 3) := by decide +kernel
theorem dX11_writePolicy_63 : decode cX11_writePolicy 63 = .ok (.bipush 120, 2) := by decide +kernel
theorem dX11_writePolicy_65 : decode cX11_writePolicy 65 = .ok (.invokevirtual 286, 3) := by decide +kernel
theorem dX11_writePolicy_68 : decode cX11_writePolicy 68 = .ok (.aload_n 0, 1) := by decide +kernel
theorem dX11_writePolicy_69 : decode cX11_writePolicy 69 = .ok (.getfield 10, 3) := by decide +kernel
theorem dX11_writePolicy_72 : decode cX11_writePolicy 72 = .ok (.getfield 108, 3) := by decide +kernel
theorem dX11_writePolicy_75 : decode cX11_writePolicy 75 = .ok (.getfield 133, 3) := by decide +kernel
theorem dX11_writePolicy_78 : decode cX11_writePolicy 78 = .ok (.iload_n 2, 1) := by decide +kernel
theorem dX11_writePolicy_79 : decode cX11_writePolicy 79 = .ok (.iaload, 1) := by decide +kernel
theorem dX11_writePolicy_80 : decode cX11_writePolicy 80 = .ok (.invokevirtual 290, 3) := by decide +kernel
theorem dX11_writePolicy_83 : decode cX11_writePolicy 83 = .ok (.pop, 1) := by decide +kernel
theorem dX11_writePolicy_84 : decode cX11_writePolicy 84 = .ok (.aload_n 0, 1) := by decide +kernel
theorem dX11_writePolicy_85 : decode cX11_writePolicy 85 = .ok (.getfield 36, 3) := by decide +kernel
theorem dX11_writePolicy_88 : decode cX11_writePolicy 88 = .ok (.bipush 64, 2) := by decide +kernel
theorem dX11_writePolicy_90 : decode cX11_writePolicy 90 = .ok (.invokevirtual 286, 3) := by decide +kernel
theorem dX11_writePolicy_93 : decode cX11_writePolicy 93 = .ok (.aload_n 0, 1) := by decide +kernel
theorem dX11_writePolicy_94 : decode cX11_writePolicy 94 = .ok (.getfield 10, 3) := by decide +kernel
theorem dX11_writePolicy_97 : decode cX11_writePolicy 97 = .ok (.getfield 108, 3) := by decide +kernel
theorem dX11_writePolicy_100 : decode cX11_writePolicy 100 = .ok (.getfield 139, 3) := by decide +kernel
theorem dX11_writePolicy_103 : decode cX11_writePolicy 103 = .ok (.iload_n 2, 1) := by decide +kernel
theorem dX11_writePolicy_104 : decode cX11_writePolicy 104 = .ok (.iaload, 1) := by decide +kernel
theorem dX11_writePolicy_105 : decode cX11_writePolicy 105 = .ok (.invokevirtual 290, 3) := by decide +kernel
theorem dX11_writePolicy_108 : decode cX11_writePolicy 108 = .ok (.pop, 1) := by decide +kernel
theorem dX11_writePolicy_109 : decode cX11_writePolicy 109 = .ok (.aload_n 0, 1) := by decide +kernel
theorem dX11_writePolicy_110 : decode cX11_writePolicy 110 = .ok (.getfield 10, 3) := by decide +kernel
theorem dX11_writePolicy_113 : decode cX11_writePolicy 113 = .ok (.getfield 108, 3) := by decide +kernel
theorem dX11_writePolicy_116 : decode cX11_writePolicy 116 = .ok (.iload_n 2, 1) := by decide +kernel
theorem dX11_writePolicy_117 : decode cX11_writePolicy 117 = .ok (.aload_n 0, 1) := by decide +kernel
theorem dX11_writePolicy_118 : decode cX11_writePolicy 118 = .ok (.getfield 10, 3) := by decide +kernel
theorem dX11_writePolicy_121 : decode cX11_writePolicy 121 = .ok (.getfield 102, 3) := by decide +kernel
theorem dX11_writePolicy_124 : decode cX11_writePolicy 124 = .ok (.invokevirtual 142, 3) := by decide +kernel
theorem dX11_writePolicy_127 : decode cX11_writePolicy 127 = .ok (.ifCond .ne 13, 3) := by decide +kernel
theorem dX11_writePolicy_130 : decode cX11_writePolicy 130 = .ok (.aload_n 0, 1) := by decide +kernel
theorem dX11_writePolicy_131 : decode cX11_writePolicy 131 = .ok (.getfield 36, 3) := by decide +kernel
theorem dX11_writePolicy_134 : decode cX11_writePolicy 134 = .ok (.bipush 33, 2) := by decide +kernel
theorem dX11_writePolicy_136 : decode cX11_writePolicy 136 = .ok (.invokevirtual 286, 3) := by decide +kernel
theorem dX11_writePolicy_139 : decode cX11_writePolicy 139 = .ok (.pop, 1) := by decide +kernel
theorem dX11_writePolicy_140 : decode cX11_writePolicy 140 = .ok (.aload_n 0, 1) := by decide +kernel
theorem dX11_writePolicy_141 : decode cX11_writePolicy 141 = .ok (.getfield 36, 3) := by decide +kernel
theorem dX11_writePolicy_144 : decode cX11_writePolicy 144 = .ok (.invokevirtual 293, 3) := by decide +kernel
theorem dX11_writePolicy_147 : decode cX11_writePolicy 147 = .ok (.ireturn, 1) := by decide +kernel
theorem dX11_writeClaim_0 : decode cX11_writeClaim 0 = .ok (.aload_n 0, 1) := by decide +kernel
theorem dX11_writeClaim_1 : decode cX11_writeClaim 1 = .ok (.getfield 10, 3) := by decide +kernel
theorem dX11_writeClaim_4 : decode cX11_writeClaim 4 = .ok (.getfield 146, 3) := by decide +kernel
theorem dX11_writeClaim_7 : decode cX11_writeClaim 7 = .ok (.iload_n 1, 1) := by decide +kernel
theorem dX11_writeClaim_8 : decode cX11_writeClaim 8 = .ok (.invokevirtual 156, 3) := by decide +kernel
theorem dX11_writeClaim_11 : decode cX11_writeClaim 11 = .ok (.istore_n 2, 1) := by decide +kernel
theorem dX11_writeClaim_12 : decode cX11_writeClaim 12 = .ok (.aload_n 0, 1) := by decide +kernel
theorem dX11_writeClaim_13 : decode cX11_writeClaim 13 = .ok (.getfield 36, 3) := by decide +kernel
theorem dX11_writeClaim_16 : decode cX11_writeClaim 16 = .ok (.iconst 0, 1) := by decide +kernel
theorem dX11_writeClaim_17 : decode cX11_writeClaim 17 = .ok (.invokevirtual 282, 3) := by decide +kernel
theorem dX11_writeClaim_20 : decode cX11_writeClaim 20 = .ok (.aload_n 0, 1) := by decide +kernel
theorem dX11_writeClaim_21 : decode cX11_writeClaim 21 = .ok (.getfield 36, 3) := by decide +kernel
theorem dX11_writeClaim_24 : decode cX11_writeClaim 24 = .ok (.iload_n 1, 1) := by decide +kernel
theorem dX11_writeClaim_25 : decode cX11_writeClaim 25 = .ok (.invokevirtual 290, 3) := by decide +kernel
theorem dX11_writeClaim_28 : decode cX11_writeClaim 28 = .ok (.aload_n 0, 1) := by decide +kernel
theorem dX11_writeClaim_29 : decode cX11_writeClaim 29 = .ok (.getfield 10, 3) := by decide +kernel
theorem dX11_writeClaim_32 : decode cX11_writeClaim 32 = .ok (.getfield 146, 3) := by decide +kernel
theorem dX11_writeClaim_35 : decode cX11_writeClaim 35 = .ok (.getfield 157, 3) := by decide +kernel
theorem dX11_writeClaim_38 : decode cX11_writeClaim 38 = .ok (.iload_n 2, 1) := by decide +kernel
theorem dX11_writeClaim_39 : decode cX11_writeClaim 39 = .ok (.caload, 1) := by decide +kernel
theorem dX11_writeClaim_40 : decode cX11_writeClaim 40 = .ok (.invokevirtual 286, 3) := by decide +kernel
theorem dX11_writeClaim_43 : decode cX11_writeClaim 43 = .ok (.pop, 1) := by decide +kernel
theorem dX11_writeClaim_44 : decode cX11_writeClaim 44 = .ok (.aload_n 0, 1) := by decide +kernel
theorem dX11_writeClaim_45 : decode cX11_writeClaim 45 = .ok (.getfield 36, 3) := by decide +kernel
theorem dX11_writeClaim_48 : decode cX11_writeClaim 48 = .ok (.aload_n 0, 1) := by decide +kernel
theorem dX11_writeClaim_49 : decode cX11_writeClaim 49 = .ok (.getfield 10, 3) := by decide +kernel
theorem dX11_writeClaim_52 : decode cX11_writeClaim 52 = .ok (.getfield 146, 3) := by decide +kernel
theorem dX11_writeClaim_55 : decode cX11_writeClaim 55 = .ok (.getfield 161, 3) := by decide +kernel
theorem dX11_writeClaim_58 : decode cX11_writeClaim 58 = .ok (.iload_n 2, 1) := by decide +kernel
theorem dX11_writeClaim_59 : decode cX11_writeClaim 59 = .ok (.iaload, 1) := by decide +kernel
theorem dX11_writeClaim_60 : decode cX11_writeClaim 60 = .ok (.invokevirtual 290, 3) := by decide +kernel
theorem dX11_writeClaim_63 : decode cX11_writeClaim 63 = .ok (.pop, 1) := by decide +kernel
theorem dX11_writeClaim_64 : decode cX11_writeClaim 64 = .ok (.aload_n 0, 1) := by decide +kernel
theorem dX11_writeClaim_65 : decode cX11_writeClaim 65 = .ok (.getfield 36, 3) := by decide +kernel
theorem dX11_writeClaim_68 : decode cX11_writeClaim 68 = .ok (.bipush 47, 2) := by decide +kernel
theorem dX11_writeClaim_70 : decode cX11_writeClaim 70 = .ok (.invokevirtual 286, 3) := by decide +kernel
theorem dX11_writeClaim_73 : decode cX11_writeClaim 73 = .ok (.aload_n 0, 1) := by decide +kernel
theorem dX11_writeClaim_74 : decode cX11_writeClaim 74 = .ok (.getfield 10, 3) := by decide +kernel
theorem dX11_writeClaim_77 : decode cX11_writeClaim 77 = .ok (.getfield 146, 3) := by decide +kernel
theorem dX11_writeClaim_80 : decode cX11_writeClaim 80 = .ok (.getfield 164, 3) := by decide +kernel
theorem dX11_writeClaim_83 : decode cX11_writeClaim 83 = .ok (.iload_n 2, 1) := by decide +kernel
theorem dX11_writeClaim_84 : decode cX11_writeClaim 84 = .ok (.iaload, 1) := by decide +kernel
theorem dX11_writeClaim_85 : decode cX11_writeClaim 85 = .ok (.invokevirtual 290, 3) := by decide +kernel
theorem dX11_writeClaim_88 : decode cX11_writeClaim 88 = .ok (.pop, 1) := by decide +kernel
theorem dX11_writeClaim_89 : decode cX11_writeClaim 89 = .ok (.aload_n 0, 1) := by decide +kernel
theorem dX11_writeClaim_90 : decode cX11_writeClaim 90 = .ok (.getfield 36, 3) := by decide +kernel
theorem dX11_writeClaim_93 : decode cX11_writeClaim 93 = .ok (.bipush 61, 2) := by decide +kernel
theorem dX11_writeClaim_95 : decode cX11_writeClaim 95 = .ok (.invokevirtual 286, 3) := by decide +kernel
theorem dX11_writeClaim_98 : decode cX11_writeClaim 98 = .ok (.aload_n 0, 1) := by decide +kernel
theorem dX11_writeClaim_99 : decode cX11_writeClaim 99 = .ok (.getfield 10, 3) := by decide +kernel
theorem dX11_writeClaim_102 : decode cX11_writeClaim 102 = .ok (.getfield 146, 3) := by decide +kernel
theorem dX11_writeClaim_105 : decode cX11_writeClaim 105 = .ok (.iload_n 2, 1) := by decide +kernel
theorem dX11_writeClaim_106 : decode cX11_writeClaim 106 = .ok (.invokevirtual 178, 3) := by decide +kernel
theorem dX11_writeClaim_109 : decode cX11_writeClaim 109 = .ok (.invokevirtual 290, 3) := by decide +kernel
theorem dX11_writeClaim_112 : decode cX11_writeClaim 112 = .ok (.pop, 1) := by decide +kernel
theorem dX11_writeClaim_113 : decode cX11_writeClaim 113 = .ok (.aload_n 0, 1) := by decide +kernel
theorem dX11_writeClaim_114 : decode cX11_writeClaim 114 = .ok (.getfield 36, 3) := by decide +kernel
theorem dX11_writeClaim_117 : decode cX11_writeClaim 117 = .ok (.invokevirtual 293, 3) := by decide +kernel
theorem dX11_writeClaim_120 : decode cX11_writeClaim 120 = .ok (.ireturn, 1) := by decide +kernel
theorem dX11_outputAt_0 : decode cX11_outputAt 0 = .ok (.aload_n 0, 1) := by decide +kernel
theorem dX11_outputAt_1 : decode cX11_outputAt 1 = .ok (.getfield 36, 3) := by decide +kernel
theorem dX11_outputAt_4 : decode cX11_outputAt 4 = .ok (.iload_n 1, 1) := by decide +kernel
theorem dX11_outputAt_5 : decode cX11_outputAt 5 = .ok (.aload_n 0, 1) := by decide +kernel
theorem dX11_outputAt_6 : decode cX11_outputAt 6 = .ok (.getfield 36, 3) := by decide +kernel
theorem dX11_outputAt_9 : decode cX11_outputAt 9 = .ok (.invokevirtual 293, 3) := by decide +kernel
theorem dX11_outputAt_12 : decode cX11_outputAt 12 = .ok (.invokestatic 121, 3) := by decide +kernel
theorem dX11_outputAt_15 : decode cX11_outputAt 15 = .ok (.invokevirtual 296, 3) := by decide +kernel
theorem dX11_outputAt_18 : decode cX11_outputAt 18 = .ok (.ireturn, 1) := by decide +kernel
theorem dX11_type_0 : decode cX11_type 0 = .ok (.aload_n 0, 1) := by decide +kernel
theorem dX11_type_1 : decode cX11_type 1 = .ok (.getfield 29, 3) := by decide +kernel
theorem dX11_type_4 : decode cX11_type 4 = .ok (.iload_n 1, 1) := by decide +kernel
theorem dX11_type_5 : decode cX11_type 5 = .ok (.bipush 32, 2) := by decide +kernel
theorem dX11_type_7 : decode cX11_type 7 = .ok (.bipush 126, 2) := by decide +kernel
theorem dX11_type_9 : decode cX11_type 9 = .ok (.invokestatic 190, 3) := by decide +kernel
theorem dX11_type_12 : decode cX11_type 12 = .ok (.i2c, 1) := by decide +kernel
theorem dX11_type_13 : decode cX11_type 13 = .ok (.invokevirtual 300, 3) := by decide +kernel
theorem dX11_type_16 : decode cX11_type 16 = .ok (.ireturn, 1) := by decide +kernel
theorem dX11_runScript_0 : decode cX11_runScript 0 = .ok (.aload_n 0, 1) := by decide +kernel
theorem dX11_runScript_1 : decode cX11_runScript 1 = .ok (.getfield 29, 3) := by decide +kernel
theorem dX11_runScript_4 : decode cX11_runScript 4 = .ok (.invokevirtual 303, 3) := by decide +kernel
theorem dX11_runScript_7 : decode cX11_runScript 7 = .ok (.istore_n 1, 1) := by decide +kernel
theorem dX11_runScript_8 : decode cX11_runScript 8 = .ok (.iload_n 1, 1) := by decide +kernel
theorem dX11_runScript_9 : decode cX11_runScript 9 = .ok (.ifCond .ge 32, 3) := by decide +kernel
theorem dX11_runScript_12 : decode cX11_runScript 12 = .ok (.aload_n 0, 1) := by decide +kernel
theorem dX11_runScript_13 : decode cX11_runScript 13 = .ok (.aload_n 0, 1) := by decide +kernel
theorem dX11_runScript_14 : decode cX11_runScript 14 = .ok (.getfield 29, 3) := by decide +kernel
theorem dX11_runScript_17 : decode cX11_runScript 17 = .ok (.getfield 306, 3) := by decide +kernel
theorem dX11_runScript_20 : decode cX11_runScript 20 = .ok (.putfield 44, 3) := by decide +kernel
theorem dX11_runScript_23 : decode cX11_runScript 23 = .ok (.aload_n 0, 1) := by decide +kernel
theorem dX11_runScript_24 : decode cX11_runScript 24 = .ok (.getfield 29, 3) := by decide +kernel
theorem dX11_runScript_27 : decode cX11_runScript 27 = .ok (.invokevirtual 309, 3) := by decide +kernel
theorem dX11_runScript_30 : decode cX11_runScript 30 = .ok (.new 312, 3) := by decide +kernel
theorem dX11_runScript_33 : decode cX11_runScript 33 = .ok (.dup, 1) := by decide +kernel
theorem dX11_runScript_34 : decode cX11_runScript 34 = .ok (.ldc_w 314, 3) := by decide +kernel
theorem dX11_runScript_37 : decode cX11_runScript 37 = .ok (.invokespecial 316, 3) := by decide +kernel
theorem dX11_runScript_40 : decode cX11_runScript 40 = .ok (.athrow, 1) := by decide +kernel
theorem dX11_runScript_41 : decode cX11_runScript 41 = .ok (.aload_n 0, 1) := by decide +kernel
theorem dX11_runScript_42 : decode cX11_runScript 42 = .ok (.getfield 22, 3) := by decide +kernel
theorem dX11_runScript_45 : decode cX11_runScript 45 = .ok (.aload_n 0, 1) := by decide +kernel
theorem dX11_runScript_46 : decode cX11_runScript 46 = .ok (.getfield 10, 3) := by decide +kernel
theorem dX11_runScript_49 : decode cX11_runScript 49 = .ok (.invokevirtual 51, 3) := by decide +kernel
theorem dX11_runScript_52 : decode cX11_runScript 52 = .ok (.aload_n 0, 1) := by decide +kernel
theorem dX11_runScript_53 : decode cX11_runScript 53 = .ok (.getfield 29, 3) := by decide +kernel
theorem dX11_runScript_56 : decode cX11_runScript 56 = .ok (.aload_n 0, 1) := by decide +kernel
theorem dX11_runScript_57 : decode cX11_runScript 57 = .ok (.getfield 10, 3) := by decide +kernel
theorem dX11_runScript_60 : decode cX11_runScript 60 = .ok (.iload_n 1, 1) := by decide +kernel
theorem dX11_runScript_61 : decode cX11_runScript 61 = .ok (.invokevirtual 317, 3) := by decide +kernel
theorem dX11_runScript_64 : decode cX11_runScript 64 = .ok (.istore_n 2, 1) := by decide +kernel
theorem dX11_runScript_65 : decode cX11_runScript 65 = .ok (.aload_n 0, 1) := by decide +kernel
theorem dX11_runScript_66 : decode cX11_runScript 66 = .ok (.getfield 29, 3) := by decide +kernel
theorem dX11_runScript_69 : decode cX11_runScript 69 = .ok (.invokevirtual 309, 3) := by decide +kernel
theorem dX11_runScript_72 : decode cX11_runScript 72 = .ok (.iload_n 2, 1) := by decide +kernel
theorem dX11_runScript_73 : decode cX11_runScript 73 = .ok (.ifCond .lt 30, 3) := by decide +kernel
theorem dX11_runScript_76 : decode cX11_runScript 76 = .ok (.aload_n 0, 1) := by decide +kernel
theorem dX11_runScript_77 : decode cX11_runScript 77 = .ok (.getfield 22, 3) := by decide +kernel
theorem dX11_runScript_80 : decode cX11_runScript 80 = .ok (.aload_n 0, 1) := by decide +kernel
theorem dX11_runScript_81 : decode cX11_runScript 81 = .ok (.getfield 10, 3) := by decide +kernel
theorem dX11_runScript_84 : decode cX11_runScript 84 = .ok (.invokevirtual 321, 3) := by decide +kernel
theorem dX11_runScript_87 : decode cX11_runScript 87 = .ok (.aload_n 0, 1) := by decide +kernel
theorem dX11_runScript_88 : decode cX11_runScript 88 = .ok (.iload_n 2, 1) := by decide +kernel
theorem dX11_runScript_89 : decode cX11_runScript 89 = .ok (.putfield 48, 3) := by decide +kernel
theorem dX11_runScript_92 : decode cX11_runScript 92 = .ok (.new 324, 3) := by decide +kernel
theorem dX11_runScript_95 : decode cX11_runScript 95 = .ok (.dup, 1) := by decide +kernel
theorem dX11_runScript_96 : decode cX11_runScript 96 = .ok (.ldc_w 326, 3) := by decide +kernel
theorem dX11_runScript_99 : decode cX11_runScript 99 = .ok (.invokespecial 328, 3) := by decide +kernel
theorem dX11_runScript_102 : decode cX11_runScript 102 = .ok (.athrow, 1) := by decide +kernel
theorem dX11_runScript_103 : decode cX11_runScript 103 = .ok (.aload_n 0, 1) := by decide +kernel
theorem dX11_runScript_104 : decode cX11_runScript 104 = .ok (.iload_n 1, 1) := by decide +kernel
theorem dX11_runScript_105 : decode cX11_runScript 105 = .ok (.invokevirtual 59, 3) := by decide +kernel
theorem dX11_runScript_108 : decode cX11_runScript 108 = .ok (.ireturn, 1) := by decide +kernel
theorem dX11_errorPosition_0 : decode cX11_errorPosition 0 = .ok (.aload_n 0, 1) := by decide +kernel
theorem dX11_errorPosition_1 : decode cX11_errorPosition 1 = .ok (.getfield 44, 3) := by decide +kernel
theorem dX11_errorPosition_4 : decode cX11_errorPosition 4 = .ok (.invokestatic 329, 3) := by decide +kernel
theorem dX11_errorPosition_7 : decode cX11_errorPosition 7 = .ok (.ireturn, 1) := by decide +kernel
theorem dX11_failedCommand_0 : decode cX11_failedCommand 0 = .ok (.aload_n 0, 1) := by decide +kernel
theorem dX11_failedCommand_1 : decode cX11_failedCommand 1 = .ok (.getfield 48, 3) := by decide +kernel
theorem dX11_failedCommand_4 : decode cX11_failedCommand 4 = .ok (.invokestatic 329, 3) := by decide +kernel
theorem dX11_failedCommand_7 : decode cX11_failedCommand 7 = .ok (.ireturn, 1) := by decide +kernel
theorem dX11_undo_0 : decode cX11_undo 0 = .ok (.aload_n 0, 1) := by decide +kernel
theorem dX11_undo_1 : decode cX11_undo 1 = .ok (.getfield 22, 3) := by decide +kernel
theorem dX11_undo_4 : decode cX11_undo 4 = .ok (.aload_n 0, 1) := by decide +kernel
theorem dX11_undo_5 : decode cX11_undo 5 = .ok (.getfield 10, 3) := by decide +kernel
theorem dX11_undo_8 : decode cX11_undo 8 = .ok (.invokevirtual 332, 3) := by decide +kernel
theorem dX11_undo_11 : decode cX11_undo 11 = .ok (.ireturn, 1) := by decide +kernel
theorem dX11_save_0 : decode cX11_save 0 = .ok (.aload_n 0, 1) := by decide +kernel
theorem dX11_save_1 : decode cX11_save 1 = .ok (.getfield 16, 3) := by decide +kernel
theorem dX11_save_4 : decode cX11_save 4 = .ok (.aload_n 0, 1) := by decide +kernel
theorem dX11_save_5 : decode cX11_save 5 = .ok (.getfield 10, 3) := by decide +kernel
theorem dX11_save_8 : decode cX11_save 8 = .ok (.invokevirtual 336, 3) := by decide +kernel
theorem dX11_save_11 : decode cX11_save 11 = .ok (.aload_n 0, 1) := by decide +kernel
theorem dX11_save_12 : decode cX11_save 12 = .ok (.iconst 1, 1) := by decide +kernel
theorem dX11_save_13 : decode cX11_save 13 = .ok (.putfield 40, 3) := by decide +kernel
theorem dX11_save_16 : decode cX11_save 16 = .ok (.aload_n 0, 1) := by decide +kernel
theorem dX11_save_17 : decode cX11_save 17 = .ok (.getfield 10, 3) := by decide +kernel
theorem dX11_save_20 : decode cX11_save 20 = .ok (.getfield 108, 3) := by decide +kernel
theorem dX11_save_23 : decode cX11_save 23 = .ok (.getfield 112, 3) := by decide +kernel
theorem dX11_save_26 : decode cX11_save 26 = .ok (.ireturn, 1) := by decide +kernel
theorem dX11_restore_0 : decode cX11_restore 0 = .ok (.aload_n 0, 1) := by decide +kernel
theorem dX11_restore_1 : decode cX11_restore 1 = .ok (.getfield 40, 3) := by decide +kernel
theorem dX11_restore_4 : decode cX11_restore 4 = .ok (.ifCond .ne 14, 3) := by decide +kernel
theorem dX11_restore_7 : decode cX11_restore 7 = .ok (.new 324, 3) := by decide +kernel
theorem dX11_restore_10 : decode cX11_restore 10 = .ok (.dup, 1) := by decide +kernel
theorem dX11_restore_11 : decode cX11_restore 11 = .ok (.ldc_w 339, 3) := by decide +kernel
theorem dX11_restore_14 : decode cX11_restore 14 = .ok (.invokespecial 328, 3) := by decide +kernel
theorem dX11_restore_17 : decode cX11_restore 17 = .ok (.athrow, 1) := by decide +kernel
theorem dX11_restore_18 : decode cX11_restore 18 = .ok (.aload_n 0, 1) := by decide +kernel
theorem dX11_restore_19 : decode cX11_restore 19 = .ok (.getfield 10, 3) := by decide +kernel
theorem dX11_restore_22 : decode cX11_restore 22 = .ok (.aload_n 0, 1) := by decide +kernel
theorem dX11_restore_23 : decode cX11_restore 23 = .ok (.getfield 16, 3) := by decide +kernel
theorem dX11_restore_26 : decode cX11_restore 26 = .ok (.invokevirtual 336, 3) := by decide +kernel
theorem dX11_restore_29 : decode cX11_restore 29 = .ok (.aload_n 0, 1) := by decide +kernel
theorem dX11_restore_30 : decode cX11_restore 30 = .ok (.getfield 22, 3) := by decide +kernel
theorem dX11_restore_33 : decode cX11_restore 33 = .ok (.invokevirtual 341, 3) := by decide +kernel
theorem dX11_restore_36 : decode cX11_restore 36 = .ok (.aload_n 0, 1) := by decide +kernel
theorem dX11_restore_37 : decode cX11_restore 37 = .ok (.getfield 10, 3) := by decide +kernel
theorem dX11_restore_40 : decode cX11_restore 40 = .ok (.getfield 108, 3) := by decide +kernel
theorem dX11_restore_43 : decode cX11_restore 43 = .ok (.getfield 112, 3) := by decide +kernel
theorem dX11_restore_46 : decode cX11_restore 46 = .ok (.ireturn, 1) := by decide +kernel
theorem dX11_changed_0 : decode cX11_changed 0 = .ok (.aload_n 0, 1) := by decide +kernel
theorem dX11_changed_1 : decode cX11_changed 1 = .ok (.getfield 22, 3) := by decide +kernel
theorem dX11_changed_4 : decode cX11_changed 4 = .ok (.invokevirtual 344, 3) := by decide +kernel
theorem dX11_changed_7 : decode cX11_changed 7 = .ok (.iload_n 1, 1) := by decide +kernel
theorem dX11_changed_8 : decode cX11_changed 8 = .ok (.ireturn, 1) := by decide +kernel
theorem dX11_coverPrice_0 : decode cX11_coverPrice 0 = .ok (.iload_n 0, 1) := by decide +kernel
theorem dX11_coverPrice_1 : decode cX11_coverPrice 1 = .ok (.sipush 1000, 3) := by decide +kernel
theorem dX11_coverPrice_4 : decode cX11_coverPrice 4 = .ok (.if_icmp .lt 14, 3) := by decide +kernel
theorem dX11_coverPrice_7 : decode cX11_coverPrice 7 = .ok (.new 347, 3) := by decide +kernel
theorem dX11_coverPrice_10 : decode cX11_coverPrice 10 = .ok (.dup, 1) := by decide +kernel
theorem dX11_coverPrice_11 : decode cX11_coverPrice 11 = .ok (.ldc_w 349, 3) := by decide +kernel
theorem dX11_coverPrice_14 : decode cX11_coverPrice 14 = .ok (.invokespecial 351, 3) := by decide +kernel
theorem dX11_coverPrice_17 : decode cX11_coverPrice 17 = .ok (.athrow, 1) := by decide +kernel
theorem dX11_coverPrice_18 : decode cX11_coverPrice 18 = .ok (.iload_n 0, 1) := by decide +kernel
theorem dX11_coverPrice_19 : decode cX11_coverPrice 19 = .ok (.ireturn, 1) := by decide +kernel
theorem dX11_known_0 : decode cX11_known 0 = .ok (.iload_n 0, 1) := by decide +kernel
theorem dX11_known_1 : decode cX11_known 1 = .ok (.ifCond .ge 14, 3) := by decide +kernel
theorem dX11_known_4 : decode cX11_known 4 = .ok (.new 347, 3) := by decide +kernel
theorem dX11_known_7 : decode cX11_known 7 = .ok (.dup, 1) := by decide +kernel
theorem dX11_known_8 : decode cX11_known 8 = .ok (.ldc_w 352, 3) := by decide +kernel
theorem dX11_known_11 : decode cX11_known 11 = .ok (.invokespecial 351, 3) := by decide +kernel
theorem dX11_known_14 : decode cX11_known 14 = .ok (.athrow, 1) := by decide +kernel
theorem dX11_known_15 : decode cX11_known 15 = .ok (.iload_n 0, 1) := by decide +kernel
theorem dX11_known_16 : decode cX11_known 16 = .ok (.ireturn, 1) := by decide +kernel
theorem dX11_checkedNumber_0 : decode cX11_checkedNumber 0 = .ok (.iload_n 0, 1) := by decide +kernel
theorem dX11_checkedNumber_1 : decode cX11_checkedNumber 1 = .ok (.iload_n 1, 1) := by decide +kernel
theorem dX11_checkedNumber_2 : decode cX11_checkedNumber 2 = .ok (.if_icmp .lt 8, 3) := by decide +kernel
theorem dX11_checkedNumber_5 : decode cX11_checkedNumber 5 = .ok (.iload_n 0, 1) := by decide +kernel
theorem dX11_checkedNumber_6 : decode cX11_checkedNumber 6 = .ok (.iload_n 2, 1) := by decide +kernel
theorem dX11_checkedNumber_7 : decode cX11_checkedNumber 7 = .ok (.if_icmp .le 14, 3) := by decide +kernel
theorem dX11_checkedNumber_10 : decode cX11_checkedNumber 10 = .ok (.new 312, 3) := by decide +kernel
theorem dX11_checkedNumber_13 : decode cX11_checkedNumber 13 = .ok (.dup, 1) := by decide +kernel
theorem dX11_checkedNumber_14 : decode cX11_checkedNumber 14 = .ok (.ldc_w 354, 3) := by decide +kernel
theorem dX11_checkedNumber_17 : decode cX11_checkedNumber 17 = .ok (.invokespecial 316, 3) := by decide +kernel
theorem dX11_checkedNumber_20 : decode cX11_checkedNumber 20 = .ok (.athrow, 1) := by decide +kernel
theorem dX11_checkedNumber_21 : decode cX11_checkedNumber 21 = .ok (.iload_n 0, 1) := by decide +kernel
theorem dX11_checkedNumber_22 : decode cX11_checkedNumber 22 = .ok (.ireturn, 1) := by decide +kernel
theorem dX11_checkedIndex_0 : decode cX11_checkedIndex 0 = .ok (.iload_n 0, 1) := by decide +kernel
theorem dX11_checkedIndex_1 : decode cX11_checkedIndex 1 = .ok (.ifCond .lt 8, 3) := by decide +kernel
theorem dX11_checkedIndex_4 : decode cX11_checkedIndex 4 = .ok (.iload_n 0, 1) := by decide +kernel
theorem dX11_checkedIndex_5 : decode cX11_checkedIndex 5 = .ok (.iload_n 1, 1) := by decide +kernel
theorem dX11_checkedIndex_6 : decode cX11_checkedIndex 6 = .ok (.if_icmp .lt 14, 3) := by decide +kernel
theorem dX11_checkedIndex_9 : decode cX11_checkedIndex 9 = .ok (.new 356, 3) := by decide +kernel
theorem dX11_checkedIndex_12 : decode cX11_checkedIndex 12 = .ok (.dup, 1) := by decide +kernel
theorem dX11_checkedIndex_13 : decode cX11_checkedIndex 13 = .ok (.ldc_w 358, 3) := by decide +kernel
theorem dX11_checkedIndex_16 : decode cX11_checkedIndex 16 = .ok (.invokespecial 360, 3) := by decide +kernel
theorem dX11_checkedIndex_19 : decode cX11_checkedIndex 19 = .ok (.athrow, 1) := by decide +kernel
theorem dX11_checkedIndex_20 : decode cX11_checkedIndex 20 = .ok (.iload_n 0, 1) := by decide +kernel
theorem dX11_checkedIndex_21 : decode cX11_checkedIndex 21 = .ok (.ireturn, 1) := by decide +kernel
theorem dX11_find_0 : decode cX11_find 0 = .ok (.iconst 0, 1) := by decide +kernel
theorem dX11_find_1 : decode cX11_find 1 = .ok (.istore_n 3, 1) := by decide +kernel
theorem dX11_find_2 : decode cX11_find 2 = .ok (.iload_n 3, 1) := by decide +kernel
theorem dX11_find_3 : decode cX11_find 3 = .ok (.iload_n 1, 1) := by decide +kernel
theorem dX11_find_4 : decode cX11_find 4 = .ok (.if_icmp .ge 18, 3) := by decide +kernel
theorem dX11_find_7 : decode cX11_find 7 = .ok (.aload_n 0, 1) := by decide +kernel
theorem dX11_find_8 : decode cX11_find 8 = .ok (.iload_n 3, 1) := by decide +kernel
theorem dX11_find_9 : decode cX11_find 9 = .ok (.iaload, 1) := by decide +kernel
theorem dX11_find_10 : decode cX11_find 10 = .ok (.iload_n 2, 1) := by decide +kernel
theorem dX11_find_11 : decode cX11_find 11 = .ok (.if_icmp .ne 5, 3) := by decide +kernel
theorem dX11_find_14 : decode cX11_find 14 = .ok (.iload_n 3, 1) := by decide +kernel
theorem dX11_find_15 : decode cX11_find 15 = .ok (.ireturn, 1) := by decide +kernel
theorem dX11_find_16 : decode cX11_find 16 = .ok (.iinc 3 1, 3) := by decide +kernel
theorem dX11_find_19 : decode cX11_find 19 = .ok (.goto (-17), 3) := by decide +kernel
theorem dX11_find_22 : decode cX11_find 22 = .ok (.iconst (-1), 1) := by decide +kernel
theorem dX11_find_23 : decode cX11_find 23 = .ok (.ireturn, 1) := by decide +kernel
theorem dX11_freePlace_0 : decode cX11_freePlace 0 = .ok (.iload_n 0, 1) := by decide +kernel
theorem dX11_freePlace_1 : decode cX11_freePlace 1 = .ok (.ifCond .lt 8, 3) := by decide +kernel
theorem dX11_freePlace_4 : decode cX11_freePlace 4 = .ok (.iload_n 0, 1) := by decide +kernel
theorem dX11_freePlace_5 : decode cX11_freePlace 5 = .ok (.iload_n 1, 1) := by decide +kernel
theorem dX11_freePlace_6 : decode cX11_freePlace 6 = .ok (.if_icmp .lt 14, 3) := by decide +kernel
theorem dX11_freePlace_9 : decode cX11_freePlace 9 = .ok (.new 324, 3) := by decide +kernel
theorem dX11_freePlace_12 : decode cX11_freePlace 12 = .ok (.dup, 1) := by decide +kernel
theorem dX11_freePlace_13 : decode cX11_freePlace 13 = .ok (.ldc_w 361, 3) := by decide +kernel
theorem dX11_freePlace_16 : decode cX11_freePlace 16 = .ok (.invokespecial 328, 3) := by decide +kernel
theorem dX11_freePlace_19 : decode cX11_freePlace 19 = .ok (.athrow, 1) := by decide +kernel
theorem dX11_freePlace_20 : decode cX11_freePlace 20 = .ok (.iload_n 0, 1) := by decide +kernel
theorem dX11_freePlace_21 : decode cX11_freePlace 21 = .ok (.ireturn, 1) := by decide +kernel
theorem dX11_copyRow_0 : decode cX11_copyRow 0 = .ok (.aload_n 0, 1) := by decide +kernel
theorem dX11_copyRow_1 : decode cX11_copyRow 1 = .ok (.iconst 0, 1) := by decide +kernel
theorem dX11_copyRow_2 : decode cX11_copyRow 2 = .ok (.aload_n 1, 1) := by decide +kernel
theorem dX11_copyRow_3 : decode cX11_copyRow 3 = .ok (.iconst 0, 1) := by decide +kernel
theorem dX11_copyRow_4 : decode cX11_copyRow 4 = .ok (.aload_n 0, 1) := by decide +kernel
theorem dX11_copyRow_5 : decode cX11_copyRow 5 = .ok (.arraylength, 1) := by decide +kernel
theorem dX11_copyRow_6 : decode cX11_copyRow 6 = .ok (.aload_n 1, 1) := by decide +kernel
theorem dX11_copyRow_7 : decode cX11_copyRow 7 = .ok (.arraylength, 1) := by decide +kernel
theorem dX11_copyRow_8 : decode cX11_copyRow 8 = .ok (.invokestatic 363, 3) := by decide +kernel
theorem dX11_copyRow_11 : decode cX11_copyRow 11 = .ok (.invokestatic 368, 3) := by decide +kernel
theorem dX11_copyRow_14 : decode cX11_copyRow 14 = .ok (.return_, 1) := by decide +kernel
theorem dX11_closeGap_0 : decode cX11_closeGap 0 = .ok (.iload_n 1, 1) := by decide +kernel
theorem dX11_closeGap_1 : decode cX11_closeGap 1 = .ok (.istore_n 2, 1) := by decide +kernel
theorem dX11_closeGap_2 : decode cX11_closeGap 2 = .ok (.iload_n 2, 1) := by decide +kernel
theorem dX11_closeGap_3 : decode cX11_closeGap 3 = .ok (.ifCond .lt 25, 3) := by decide +kernel
theorem dX11_closeGap_6 : decode cX11_closeGap 6 = .ok (.iload_n 2, 1) := by decide +kernel
theorem dX11_closeGap_7 : decode cX11_closeGap 7 = .ok (.aload_n 0, 1) := by decide +kernel
theorem dX11_closeGap_8 : decode cX11_closeGap 8 = .ok (.arraylength, 1) := by decide +kernel
theorem dX11_closeGap_9 : decode cX11_closeGap 9 = .ok (.iconst 1, 1) := by decide +kernel
theorem dX11_closeGap_10 : decode cX11_closeGap 10 = .ok (.isub, 1) := by decide +kernel
theorem dX11_closeGap_11 : decode cX11_closeGap 11 = .ok (.if_icmp .ge 17, 3) := by decide +kernel
theorem dX11_closeGap_14 : decode cX11_closeGap 14 = .ok (.aload_n 0, 1) := by decide +kernel
theorem dX11_closeGap_15 : decode cX11_closeGap 15 = .ok (.iload_n 2, 1) := by decide +kernel
theorem dX11_closeGap_16 : decode cX11_closeGap 16 = .ok (.aload_n 0, 1) := by decide +kernel
theorem dX11_closeGap_17 : decode cX11_closeGap 17 = .ok (.iload_n 2, 1) := by decide +kernel
theorem dX11_closeGap_18 : decode cX11_closeGap 18 = .ok (.iconst 1, 1) := by decide +kernel
theorem dX11_closeGap_19 : decode cX11_closeGap 19 = .ok (.iadd, 1) := by decide +kernel
theorem dX11_closeGap_20 : decode cX11_closeGap 20 = .ok (.iaload, 1) := by decide +kernel
theorem dX11_closeGap_21 : decode cX11_closeGap 21 = .ok (.iastore, 1) := by decide +kernel
theorem dX11_closeGap_22 : decode cX11_closeGap 22 = .ok (.iinc 2 1, 3) := by decide +kernel
theorem dX11_closeGap_25 : decode cX11_closeGap 25 = .ok (.goto (-23), 3) := by decide +kernel
theorem dX11_closeGap_28 : decode cX11_closeGap 28 = .ok (.return_, 1) := by decide +kernel
theorem dX11_sumOfRow_0 : decode cX11_sumOfRow 0 = .ok (.iconst 0, 1) := by decide +kernel
theorem dX11_sumOfRow_1 : decode cX11_sumOfRow 1 = .ok (.istore_n 2, 1) := by decide +kernel
theorem dX11_sumOfRow_2 : decode cX11_sumOfRow 2 = .ok (.iconst 0, 1) := by decide +kernel
theorem dX11_sumOfRow_3 : decode cX11_sumOfRow 3 = .ok (.istore_n 3, 1) := by decide +kernel
theorem dX11_sumOfRow_4 : decode cX11_sumOfRow 4 = .ok (.iload_n 3, 1) := by decide +kernel
theorem dX11_sumOfRow_5 : decode cX11_sumOfRow 5 = .ok (.iload_n 1, 1) := by decide +kernel
theorem dX11_sumOfRow_6 : decode cX11_sumOfRow 6 = .ok (.if_icmp .ge 15, 3) := by decide +kernel
theorem dX11_sumOfRow_9 : decode cX11_sumOfRow 9 = .ok (.iload_n 2, 1) := by decide +kernel
theorem dX11_sumOfRow_10 : decode cX11_sumOfRow 10 = .ok (.aload_n 0, 1) := by decide +kernel
theorem dX11_sumOfRow_11 : decode cX11_sumOfRow 11 = .ok (.iload_n 3, 1) := by decide +kernel
theorem dX11_sumOfRow_12 : decode cX11_sumOfRow 12 = .ok (.iaload, 1) := by decide +kernel
theorem dX11_sumOfRow_13 : decode cX11_sumOfRow 13 = .ok (.iadd, 1) := by decide +kernel
theorem dX11_sumOfRow_14 : decode cX11_sumOfRow 14 = .ok (.istore_n 2, 1) := by decide +kernel
theorem dX11_sumOfRow_15 : decode cX11_sumOfRow 15 = .ok (.iinc 3 1, 3) := by decide +kernel
theorem dX11_sumOfRow_18 : decode cX11_sumOfRow 18 = .ok (.goto (-14), 3) := by decide +kernel
theorem dX11_sumOfRow_21 : decode cX11_sumOfRow 21 = .ok (.iload_n 2, 1) := by decide +kernel
theorem dX11_sumOfRow_22 : decode cX11_sumOfRow 22 = .ok (.ireturn, 1) := by decide +kernel
theorem dX11_isCause_0 : decode cX11_isCause 0 = .ok (.iload_n 0, 1) := by decide +kernel
theorem dX11_isCause_1 : decode cX11_isCause 1 = .ok (.bipush 114, 2) := by decide +kernel
theorem dX11_isCause_3 : decode cX11_isCause 3 = .ok (.if_icmp .eq 21, 3) := by decide +kernel
theorem dX11_isCause_6 : decode cX11_isCause 6 = .ok (.iload_n 0, 1) := by decide +kernel
theorem dX11_isCause_7 : decode cX11_isCause 7 = .ok (.bipush 103, 2) := by decide +kernel
theorem dX11_isCause_9 : decode cX11_isCause 9 = .ok (.if_icmp .eq 15, 3) := by decide +kernel
theorem dX11_isCause_12 : decode cX11_isCause 12 = .ok (.iload_n 0, 1) := by decide +kernel
theorem dX11_isCause_13 : decode cX11_isCause 13 = .ok (.bipush 119, 2) := by decide +kernel
theorem dX11_isCause_15 : decode cX11_isCause 15 = .ok (.if_icmp .eq 9, 3) := by decide +kernel
theorem dX11_isCause_18 : decode cX11_isCause 18 = .ok (.iload_n 0, 1) := by decide +kernel
theorem dX11_isCause_19 : decode cX11_isCause 19 = .ok (.bipush 102, 2) := by decide +kernel
theorem dX11_isCause_21 : decode cX11_isCause 21 = .ok (.if_icmp .ne 7, 3) := by decide +kernel
theorem dX11_isCause_24 : decode cX11_isCause 24 = .ok (.iconst 1, 1) := by decide +kernel
theorem dX11_isCause_25 : decode cX11_isCause 25 = .ok (.goto 4, 3) := by decide +kernel
theorem dX11_isCause_28 : decode cX11_isCause 28 = .ok (.iconst 0, 1) := by decide +kernel
theorem dX11_isCause_29 : decode cX11_isCause 29 = .ok (.ireturn, 1) := by decide +kernel
